
theorem rg_map (w : va_W) : (List.range w.length).map (fun i => w[i]?) = w.map some := by
  apply List.ext_getElem?
  intro k
  rw [List.getElem?_map, List.getElem?_map]
  by_cases h : k < w.length
  · rw [List.getElem?_range h]
    simp [List.getElem?_eq_getElem h]
  · rw [List.getElem?_eq_none (by simp; omega), List.getElem?_eq_none (by omega)]
    rfl
theorem P_left {D : va_G} {a b : va_W} {H : Heap} (h : va_P D vwCl (a ++ b) H) : va_P D vwCl a H := by
  intro k q hq
  have hk : k < a.length := (List.getElem?_eq_some_iff.mp hq).1
  exact h k q (by rw [List.getElem?_append_left hk]; exact hq)
theorem P_swap {D : va_G} {a b : va_W} {H : Heap} (h : va_P D vwCl (a ++ b) H) : va_P D vwCl (b ++ a) H := by
  intro k q hq
  have h1 : q ∈ a ++ b := by
    have h2 := List.mem_of_getElem? hq
    rcases List.mem_append.mp h2 with h3 | h3
    · exact List.mem_append.mpr (Or.inr h3)
    · exact List.mem_append.mpr (Or.inl h3)
  obtain ⟨i, hi⟩ := List.getElem?_of_mem h1
  exact h i q hi
theorem D_swap {A : Nat → Prop} {a b : va_W} (h : va_D A (a ++ b)) : va_D A (b ++ a) := by
  have h1 : va_D A (([] ++ a) ++ b) := h
  exact h1.swap
theorem D_left {A : Nat → Prop} {a b : va_W} (h : va_D A (a ++ b)) : va_D A a := by
  refine ⟨fun i j p q hi hj e => ?_, fun k q hk => ?_⟩
  · have h1 : i < a.length := (List.getElem?_eq_some_iff.mp hi).1
    have h2 : j < a.length := (List.getElem?_eq_some_iff.mp hj).1
    exact h.1 i j p q (by rw [List.getElem?_append_left h1]; exact hi) (by rw [List.getElem?_append_left h2]; exact hj) e
  · have h1 : k < a.length := (List.getElem?_eq_some_iff.mp hk).1
    exact h.2 k q (by rw [List.getElem?_append_left h1]; exact hk)
theorem join_l {A : Nat → Prop} {D : va_G} {a b w1 : va_W} {H H1 : Heap} (hP : va_P D vwCl (a ++ b) H) (hD : va_D A (a ++ b)) (hk : ∀ q : Nat, q < H.size → ¬ va_A a H.size q → H1[q]? = H[q]?) (hF : ∀ q, va_A a H.size q → A q) (hP1 : va_P D vwCl w1 H1) (hD1 : va_D (va_A a H.size) w1) : va_P D vwCl (w1 ++ b) H1 ∧ va_D A (w1 ++ b) :=
  va_joinQ (X := a) (pl := b) (cx := a) (wr := []) (w1 := w1) hP hD (List.range a.length) [] (rg_map a) rfl rfl (fun i h => absurd h List.not_mem_nil) hk hF hP1 hD1
theorem xPreVA {D : va_G} {ty : List (ClassId × FieldType)} {a b : va_W} {A : Nat → Prop} {s : State} {H : Heap} {C : String} {o ci : Nat} {As : List Value} {r : vw_C} {fs : List Value} (hN : nwA s) (hK : va_K D vwCl ty s) (hP : va_P D vwCl (a ++ b) H) (hD : va_D A (a ++ b)) (he : a[0]? = some (o, .inr (ci, fs))) (hc : vwCl[ci]? = some r) (hr : r.1 = C) : PreV s H C o (xPre D ty a H.size (.ref o :: As)) As := by
  subst hr
  exact ⟨xPre_blind, va_recv hK (P_left hP) hc he, fun U hU hW => ⟨rfl, by rw [hU], by rw [hU]; exact P_left hP, va_K.moved hW.alike hK, (D_left hD).weaken (fun _ _ _ _ => trivial), nwA_warm hW hN⟩⟩
theorem xPreVAB {D : va_G} {ty : List (ClassId × FieldType)} {a b : va_W} {A : Nat → Prop} {adK adV : Nat → Nat} {s : State} {H : Heap} {locs : List Jvm.Loc} {C : String} {o ci : Nat} {As : List Value} {r : vw_C} {fs : List Value} (hN : nwA s) (hK : va_K D vwCl ty s) (hP : va_P D vwCl (a ++ b) H) (hD : va_D A (a ++ b)) (hA : ∀ q, s.heap.size ≤ q → A q) (hS : va_S A s.heap H locs) (hE : strE adK adV A s s.heap) (hR : strR adK s) (he : a[0]? = some (o, .inr (ci, fs))) (hc : vwCl[ci]? = some r) (hr : r.1 = C) : PreV s H C o (xPreB D ty a H.size (.ref o :: As) A adK adV) As := by
  subst hr
  refine ⟨xPreB_blind, va_recv hK (P_left hP) hc he, fun U hU hW => ⟨rfl, by rw [hU], by rw [hU]; exact P_left hP, va_K.moved hW.alike hK, D_left hD, nwA_warm hW hN, fun q h => hA q (Nat.le_trans hS.1 h), ?_, fun z hz => vk_R.warm hW (hR z hz)⟩⟩
  rw [hU]
  exact strE.moved hW.alike (hE.kept (fun a h1 h2 => hS.2.1 a h1 h2))
section XA
variable {p : Program} {l : Launch} {e : Env} {R : Room} {s : State} {m : MethodId} {args : Array Value} {below : List Frame} {meth : Method} {c : Code} {H : Heap} {locs : List Jvm.Loc} {cells slots : Nat} {Q : State → Prop}
variable {D : va_G} {ty : List (ClassId × FieldType)} {a0 b0 : va_W} {A : Nat → Prop} {H0 : Heap} {pc mc ms : Nat} {ls : Array Slot} {st0 rest : List Value} {a : Array Value}
theorem xAi {post : Int32 → va_W → Prop} (hP : va_P D vwCl (a0 ++ b0) H) (hD : va_D A (a0 ++ b0)) (hS : va_S A H0 H locs) (hA : ∀ q, H0.size ≤ q → A q)
    (hr : va_Run p l e R s m args below meth c H locs cells slots mc ms (F0 m pc ls st0) rest (xQi D ty (va_A a0 H.size) post a) (va_A a0 H.size))
    (kk : ∀ (r : Int32) (w1 : va_W) (H1 : Heap) (locs1 : List Jvm.Loc), post r w1 → va_P D vwCl (w1 ++ b0) H1 → va_D A (w1 ++ b0) → va_S A H0 H1 locs1 → W p l e R s m args below meth c H1 locs1 (cells + mc) (slots + ms) Q (F0 m (pc + 3) ls (.int r :: rest))) : W p l e R s m args below meth c H locs cells slots Q (F0 m pc ls st0) := by
  have hF : ∀ q, va_A a0 H.size q → A q := fun q h => by
    rcases h with ⟨k, e, h⟩ | h
    · exact (D_left hD).2 k _ h
    · exact hA q (Nat.le_trans hS.1 h)
  refine va_calli hr hS (fun q _ h => hF q h) hF (fun r u t H1 locs1 ht hvm hw hB hz1 hk1 hS1 => ?_)
  obtain ⟨hP1, hK1, hD1⟩ := hB
  rw [ht] at hP1
  obtain ⟨hP2, hD2⟩ := join_l hP hD hk1 hF hP1 hD1
  exact kk r u H1 locs1 hw hP2 hD2 hS1
theorem xAl {post : Int64 → va_W → Prop} (hP : va_P D vwCl (a0 ++ b0) H) (hD : va_D A (a0 ++ b0)) (hS : va_S A H0 H locs) (hA : ∀ q, H0.size ≤ q → A q)
    (hr : va_Run p l e R s m args below meth c H locs cells slots mc ms (F0 m pc ls st0) rest (xQl D ty (va_A a0 H.size) post a) (va_A a0 H.size))
    (kk : ∀ (r : Int64) (w1 : va_W) (H1 : Heap) (locs1 : List Jvm.Loc), post r w1 → va_P D vwCl (w1 ++ b0) H1 → va_D A (w1 ++ b0) → va_S A H0 H1 locs1 → W p l e R s m args below meth c H1 locs1 (cells + mc) (slots + ms) Q (F0 m (pc + 3) ls (.long r :: rest))) : W p l e R s m args below meth c H locs cells slots Q (F0 m pc ls st0) := by
  have hF : ∀ q, va_A a0 H.size q → A q := fun q h => by
    rcases h with ⟨k, e, h⟩ | h
    · exact (D_left hD).2 k _ h
    · exact hA q (Nat.le_trans hS.1 h)
  refine va_calll hr hS (fun q _ h => hF q h) hF (fun r u t H1 locs1 ht hvm hw hB hz1 hk1 hS1 => ?_)
  obtain ⟨hP1, hK1, hD1⟩ := hB
  rw [ht] at hP1
  obtain ⟨hP2, hD2⟩ := join_l hP hD hk1 hF hP1 hD1
  exact kk r u H1 locs1 hw hP2 hD2 hS1
theorem xb_wh2 {pc : Nat} {st : List Value} (Inv : Nat → Nat → Nat → Heap → List Jvm.Loc → Array Slot → Prop) {ls : Array Slot} {n : Nat} (h : Inv n cells slots H locs ls)
    (step : ∀ (n cl sl : Nat) (H : Heap) (locs : List Jvm.Loc) (ls : Array Slot), Inv n cl sl H locs ls → (∀ (k c2 s2 : Nat) (H2 : Heap) (locs2 : List Jvm.Loc) (ls2 : Array Slot), k < n → Inv k c2 s2 H2 locs2 ls2 → W p l e R s m args below meth c H2 locs2 c2 s2 Q (F0 m pc ls2 st)) → W p l e R s m args below meth c H locs cl sl Q (F0 m pc ls st)) : W p l e R s m args below meth c H locs cells slots Q (F0 m pc ls st) := by
  have key : ∀ (n cl sl : Nat) (H : Heap) (locs : List Jvm.Loc) (ls : Array Slot), Inv n cl sl H locs ls → W p l e R s m args below meth c H locs cl sl Q (F0 m pc ls st) := by
    intro n
    induction n using Nat.strongRecOn with
    | ind n ih => intro cl sl H locs ls hI; exact step n cl sl H locs ls hI (fun k c2 s2 H2 locs2 ls2 hk hI2 => ih k hk c2 s2 H2 locs2 ls2 hI2)
  exact key n cells slots H locs ls h
end XA
theorem okC_o {cB cI cJ cS cZ cO : ClassId} {o : Nat} {tm : Int32} {ph : Nat} {w : va_W} (h : okC cB cI cJ cS cZ cO o tm ph w) : (∃ fs, w[0]? = some (o, .inr (10, fs))) ∧ ph ≤ 327680 := by
  obtain ⟨av, xv, yv, fv, gv, bv, rfl, h⟩ := h
  refine ⟨⟨_, rfl⟩, ?_⟩
  omega
theorem okM_o {cB cI cJ cS cZ cO : ClassId} {o : Nat} {tm : Int32} {w : va_W} (h : okM cB cI cJ cS cZ cO o tm w) : ∃ fs, w[0]? = some (o, .inr (11, fs)) := by
  obtain ⟨av, xv, yv, fv, gv, bv, rfl, -⟩ := h
  exact ⟨_, rfl⟩