
def smF (ph : Int32 → Nat) (f : Nat → Int32) : Nat → Nat
  | 0 => 0
  | n + 1 => smF ph f n + ph (f n)
theorem smF_up {ph : Int32 → Nat} {f : Nat → Int32} {n k : Nat} {v : Int32} (hk : k < n) : smF ph (upd f k v) n + ph (f k) = smF ph f n + ph v := by
  have key : ∀ n, smF ph (upd f k v) n + (if k < n then ph (f k) else 0) = smF ph f n + (if k < n then ph v else 0) := by
    intro n
    induction n with
    | zero => rfl
    | succ n ih =>
      rw [smF, smF]
      by_cases h1 : n = k
      · subst h1
        rw [if_neg (by omega), if_neg (by omega)] at ih
        rw [pk_us, if_pos (by omega), if_pos (by omega)]
        omega
      · rw [pk_un h1]
        by_cases h2 : k < n
        · rw [if_pos h2, if_pos h2] at ih; rw [if_pos (show k < n + 1 by omega), if_pos (show k < n + 1 by omega)]; omega
        · rw [if_neg h2, if_neg h2] at ih; rw [if_neg (show ¬ k < n + 1 by omega), if_neg (show ¬ k < n + 1 by omega)]; omega
  have h := key n
  rw [if_pos hk, if_pos hk] at h
  exact h
def phA (x : Int32) : Nat := if x < 0 then 4096 else x.toNatClampNeg
def phB (x : Int32) : Nat := if x < 0 then 0 else 1
theorem smB_le (f : Nat → Int32) (n : Nat) : smF phB f n ≤ n := by
  induction n with
  | zero => exact Nat.le_refl _
  | succ n ih =>
    rw [smF]
    have h9 : phB (f n) ≤ 1 := by unfold phB; split <;> decide
    omega
theorem phA_n {v : Nat} (h : v < 2 ^ 31) : phA (nI v) = v := by
  unfold phA
  rw [if_neg (nI_pos h), nI_clamp h]
theorem phB_n {v : Nat} (h : v < 2 ^ 31) : phB (nI v) = 1 := by
  unfold phB
  rw [if_neg (nI_pos h)]
theorem phA_z {x : Int32} (h : x < 0) : phA x = 4096 := if_pos h
theorem phB_z {x : Int32} (h : x < 0) : phB x = 0 := if_pos h
def Sup (ff : Nat → Int32) (w al : Nat) (db : Nat → Nat → Nat) (g : Nat → Int32) : Prop := (∀ k, k < w → g (64 * k + al) = 0) ∧ ∀ k, k < w → ∀ d, d < al → g (64 * k + d) < 0 ∨ ∃ v, 1 ≤ v ∧ v ≤ smF phB g 1536 ∧ g (64 * k + d) = nI v ∧ ∃ o, o < w ∧ ¬ aft ff k o = 0 ∧ ∃ u, u < v ∧ g (64 * o + db d o) = nI u
def Rel3 (ff : Nat → Int32) (db : Nat → Nat → Nat) (g : Nat → Int32) (k d o : Nat) : Prop := ¬ aft ff k o = 0 → g (64 * o + db d o) < 0 ∨ (¬ g (64 * k + d) < 0 ∧ g (64 * k + d) ≤ g (64 * o + db d o) + 1)
theorem Sup_val {ff : Nat → Int32} {w al k d : Nat} {db : Nat → Nat → Nat} {g : Nat → Int32} (h : Sup ff w al db g) (hk : k < w) (hd : d ≤ al) (hn : ¬ g (64 * k + d) < 0) : ∃ u, u ≤ smF phB g 1536 ∧ g (64 * k + d) = nI u := by
  by_cases h1 : d = al
  · subst h1; exact ⟨0, Nat.zero_le _, h.1 k hk⟩
  · rcases h.2 k hk d (by omega) with h2 | ⟨v, -, h3, h4, -⟩
    · exact absurd h2 hn
    · exact ⟨v, h3, h4⟩
theorem Sup_up {ff : Nat → Int32} {w al k d o : Nat} {db : Nat → Nat → Nat} {f g : Nat → Int32} {its : Int32} (hdb : ∀ d o, d < al → db d o ≤ al) (h64 : al < 64) (hw : w ≤ 24) (h : Sup ff w al db f) (hk : k < w) (hd : d < al) (ho : o < w) (ha : ¬ aft ff k o = 0) (hi : f (64 * o + db d o) = its) (hi0 : ¬ its < 0) (hc : f (64 * k + d) < 0 ∨ ¬ f (64 * k + d) ≤ its + 1) (e : upd f (Int32.toNatClampNeg (nI (64 * k + d))) (its + 1) = g) : Sup ff w al db g ∧ smF phA g 1536 < smF phA f 1536 := by
  subst hi
  obtain ⟨u, hu, eu⟩ := Sup_val h ho (hdb d o hd) hi0
  have hB := smB_le f 1536
  rw [eu, nI_1] at e hc
  rw [nI_clamp (by omega)] at e
  have hcell : 64 * k + d < 1536 := by omega
  have hne : 64 * o + db d o ≠ 64 * k + d := by
    intro e9
    rw [e9] at eu
    rw [eu] at hc
    rcases hc with hc | hc
    · exact nI_pos (by omega) hc
    · exact hc (nI_le (by omega) (by omega))
  -- the value that stood there, where it was one
  have hold : ∀ v0, v0 < 2 ^ 31 → f (64 * k + d) = nI v0 → u + 1 < v0 := by
    intro v0 h0 e0
    rw [e0] at hc
    rcases hc with hc | hc
    · exact absurd hc (nI_pos h0)
    · by_cases h9 : u + 1 < v0
      · exact h9
      · exact absurd (nI_le (by omega) (by omega)) hc
  have sB := smF_up (ph := phB) (f := f) (n := 1536) (k := 64 * k + d) (v := nI (u + 1)) hcell
  have sA := smF_up (ph := phA) (f := f) (n := 1536) (k := 64 * k + d) (v := nI (u + 1)) hcell
  rw [e] at sB sA
  rw [phB_n (by omega)] at sB
  rw [phA_n (by omega)] at sA
  have hBg : smF phB f 1536 ≤ smF phB g 1536 ∧ u + 1 ≤ smF phB g 1536 ∧ smF phA g 1536 < smF phA f 1536 := by
    rcases h.2 k hk d hd with h1 | ⟨v, a1, a2, a3, -⟩
    · rw [phB_z h1] at sB; rw [phA_z h1] at sA; omega
    · have h2 := hold v (by omega) a3
      rw [a3, phB_n (by omega)] at sB; rw [a3, phA_n (by omega)] at sA; omega
  refine ⟨⟨fun k2 hk2 => ?_, fun k2 hk2 d2 hd2 => ?_⟩, hBg.2.2⟩
  · rw [← e, pk_un (by omega)]; exact h.1 k2 hk2
  · by_cases hs : 64 * k2 + d2 = 64 * k + d
    · have e1 : k2 = k := by omega
      have e2 : d2 = d := by omega
      subst e1; subst e2
      refine Or.inr ⟨u + 1, by omega, hBg.2.1, by rw [← e, pk_us], o, ho, ha, u, by omega, ?_⟩
      rw [← e, pk_un hne]
      exact eu
    · rcases h.2 k2 hk2 d2 hd2 with h1 | ⟨v, a1, a2, a3, o2, b1, b2, u2, b3, b4⟩
      · exact Or.inl (by rw [← e, pk_un hs]; exact h1)
      · refine Or.inr ⟨v, a1, by omega, by rw [← e, pk_un hs]; exact a3, o2, b1, b2, ?_⟩
        by_cases hs2 : 64 * o2 + db d2 o2 = 64 * k + d
        · have h2 := hold u2 (by omega) (hs2 ▸ b4)
          exact ⟨u + 1, by omega, by rw [hs2, ← e, pk_us]⟩
        · exact ⟨u2, b3, by rw [← e, pk_un hs2]; exact b4⟩
theorem far_next {ff : Nat → Int32} {w al k d : Nat} {db : Nat → Nat → Nat} {g : Nat → Int32} (hdb : ∀ d o, d < al → db d o ≤ al) (h : Sup ff w al db g) (hr : ∀ k, k < w → ∀ d, d < al → ∀ o, o < w → Rel3 ff db g k d o) (hk : k < w) (hd : d < al) (hn : ¬ g (64 * k + d) < 0) : ∃ v o, 1 ≤ v ∧ v ≤ 1536 ∧ g (64 * k + d) = nI v ∧ o < w ∧ ¬ aft ff k o = 0 ∧ g (64 * o + db d o) = nI (v - 1) := by
  have hB := smB_le g 1536
  rcases h.2 k hk d hd with h1 | ⟨v, a1, a2, a3, o, b1, b2, u, b3, b4⟩
  · exact absurd h1 hn
  · refine ⟨v, o, a1, by omega, a3, b1, b2, ?_⟩
    rcases hr k hk d hd o b1 b2 with h2 | ⟨-, h2⟩
    · rw [b4] at h2; exact absurd h2 (nI_pos (by omega))
    · rw [a3, b4, nI_1] at h2
      have h3 := (nI_leI (by omega) (by omega)).mp h2
      rw [b4, show v - 1 = u by omega]
def cg (g : Nat → Int32) (d v : Nat) : Nat → Nat
  | 0 => 0
  | n + 1 => cg g d v n + if ¬ g (64 * n + d) < 0 ∧ nI v ≤ g (64 * n + d) then 1 else 0
theorem cg_le {g : Nat → Int32} {d v : Nat} (n : Nat) : cg g d v n ≤ n := by
  induction n with
  | zero => exact Nat.le_refl _
  | succ n ih => rw [cg]; split <;> omega
theorem cg_1 {g : Nat → Int32} {d v k n : Nat} (hk : k < n) (hv : v < 2 ^ 31) (e : g (64 * k + d) = nI v) : 1 ≤ cg g d v n := by
  induction n with
  | zero => omega
  | succ n ih =>
    rw [cg]
    by_cases h : k = n
    · subst h
      rw [if_pos ⟨by rw [e]; exact nI_pos hv, by rw [e]; exact Int32.le_refl _⟩]
      omega
    · have := ih (by omega); omega
theorem cg_mono {g : Nat → Int32} {d v n : Nat} (hv : v + 1 < 2 ^ 31) : cg g d (v + 1) n ≤ cg g d v n := by
  induction n with
  | zero => exact Nat.le_refl _
  | succ n ih =>
    rw [cg, cg]
    by_cases h : ¬ g (64 * n + d) < 0 ∧ nI (v + 1) ≤ g (64 * n + d)
    · rw [if_pos h, if_pos ⟨h.1, Int32.le_trans (nI_le (by omega) hv) h.2⟩]; omega
    · rw [if_neg h]; split <;> omega
theorem cg_step {g : Nat → Int32} {d v k n : Nat} (hk : k < n) (hv : v + 1 < 2 ^ 31) (e : g (64 * k + d) = nI v) : cg g d (v + 1) n + 1 ≤ cg g d v n := by
  induction n with
  | zero => omega
  | succ n ih =>
    rw [cg, cg]
    by_cases h : k = n
    · subst h
      have h1 := cg_mono (g := g) (d := d) (n := k) hv
      rw [if_neg (fun h9 => nI_ge (by omega : v < v + 1) hv (by have := h9.2; rw [e] at this; exact this)), if_pos ⟨by rw [e]; exact nI_pos (by omega), by rw [e]; exact Int32.le_refl _⟩]
      omega
    · have h1 := ih (by omega)
      by_cases h2 : ¬ g (64 * n + d) < 0 ∧ nI (v + 1) ≤ g (64 * n + d)
      · rw [if_pos h2, if_pos ⟨h2.1, Int32.le_trans (nI_le (by omega) hv) h2.2⟩]; omega
      · rw [if_neg h2]; split <;> omega
theorem bc6 : ∀ a, a < 64 → ∀ b, b < 64 → a ||| b = b → a ≠ b → bc 6 a + 1 ≤ bc 6 b := by decide +kernel