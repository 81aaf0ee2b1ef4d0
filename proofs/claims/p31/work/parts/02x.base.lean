theorem rgN_push {f g : Nat → Int32} {n B q : Nat} (h : rgN f n B) (hq : q < B) (hn : n < 2 ^ 31) (e : upd f (Int32.toNatClampNeg (nI n)) (nI q) = g) : rgN g (n + 1) B := by
  intro j hj
  subst e
  rw [nI_clamp hn]
  by_cases hjk : j = n
  · subst hjk; exact ⟨q, hq, by rw [pk_us]⟩
  · rw [pk_un hjk]; exact h j (by omega)
theorem vv_push {k1 k2 v1 v2 : Nat → Int32} {n : Nat} {y x : Int32} (h : ∀ j, j < n → k1 j = 0 ∨ ∃ q, q < 26 ∧ v1 j = nI q) (hv : y = 0 ∨ ∃ q, q < 26 ∧ x = nI q) (hn : n < 2 ^ 31)
    (e1 : upd k1 (Int32.toNatClampNeg (nI n)) y = k2) (e2 : upd v1 (Int32.toNatClampNeg (nI n)) x = v2) : ∀ j, j < n + 1 → k2 j = 0 ∨ ∃ q, q < 26 ∧ v2 j = nI q := by
  intro j hj
  subst e1; subst e2
  rw [nI_clamp hn]
  by_cases hjk : j = n
  · subst hjk; rw [pk_us, pk_us]; exact hv
  · rw [pk_un hjk, pk_un hjk]; exact h j (by omega)
def rgS (f : Nat → Int32) (n B : Nat) : Prop := ∀ j, j < n → f j < 0 ∨ ∃ q, q < B ∧ f j = nI q
theorem rgS_up {f g : Nat → Int32} {n B k : Nat} {v : Int32} (h : rgS f n B) (hk : k < 2 ^ 31) (hv : v < 0 ∨ ∃ q, q < B ∧ v = nI q) (e : upd f (Int32.toNatClampNeg (nI k)) v = g) : rgS g n B := by
  intro j hj
  subst e
  rw [nI_clamp hk]
  by_cases hjk : j = k
  · subst hjk; rw [pk_us]; exact hv
  · rw [pk_un hjk]; exact h j hj
theorem turn_0 {n : Nat} (h : n ≤ 160) : nI n - 1 < nI 160 := by
  have h1 : (nI n - nI 1).toInt = (n : Int) - 1 := pk_sub_toInt (by omega) (by decide)
  have h2 : (nI 160).toInt = (160 : Int) := nI_toInt (by decide)
  refine Int32.lt_iff_toInt_lt.mpr ?_
  rw [h2]
  show (nI n - nI 1).toInt < 160
  rw [h1]
  omega
theorem turn_k {i : Nat} {j : Int32} (hi : i < 2 ^ 31) (hj : j < nI 160) (h : ¬ j ≤ nI i) : ∃ k, k < 160 ∧ j = nI k := by
  have h0 : ¬ j < 0 := by
    intro h1
    exact h (by have h2 : (0 : Int32) ≤ nI i := nI_pos' hi
                grind)
  exact has_of h0 (by grind) (by decide)
theorem turn_1 {k : Nat} (h : k < 160) : nI k + (-1) < nI 160 := by
  have h1 := turn_0 (n := k) (by omega)
  grind
theorem st_0 {n : Nat} (h : 1 ≤ n) : nI n - 2 = nI (n - 1) - 1 := by
  obtain ⟨m, rfl⟩ : ∃ m, n = m + 1 := ⟨n - 1, by omega⟩
  rw [nI_succ_sub2]
  rfl
theorem st_k {k q : Nat} {j : Int32} (hk : k ≤ 11) (e : j = nI k - 1) (h : ¬ j < nI q) (hq : q < 2 ^ 31) : ∃ i, k = i + 1 ∧ j = nI i := by
  cases k with
  | zero =>
    refine absurd ?_ h
    rw [e]
    have h1 : (0 : Int32) ≤ nI q := nI_pos' hq
    have h2 : nI 0 - 1 < 0 := by decide
    grind
  | succ k => exact ⟨k, rfl, by rw [e, nI_pred]⟩
