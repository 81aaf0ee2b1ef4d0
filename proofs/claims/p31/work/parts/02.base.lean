/-! The uniform words of this claim: worlds, contracts, calls, loops. -/
abbrev tyL (cB cI cJ cS cZ cO : ClassId) : List (ClassId × FieldType) := [(cB, .byte), (cI, .int), (cJ, .long), (cS, .short), (cZ, .boolean), (cO, .object "LastLetter$Talk")]
/-- the words of private members of nest mates: they hold at every state of the run -/
def nwA (U : State) : Prop := (∀ q ∈ nwF, va_Nw (.fieldLinkNest q.1 q.2.1 q.2.2.1 q.2.2.2.1 q.2.2.2.2.1 q.2.2.2.2.2) U) ∧ ((∀ q ∈ nwM, va_Nw (.methodLinkNest q.1 q.2.1 q.2.2.1 q.2.2.2) U) ∧ va_AO "LastLetter$Talk" U)
theorem nwA_same {u U : State} (h : u.vm = U.vm) (hA : u.vm.Alike U.vm) (hN : nwA u) : nwA U := ⟨fun q hq => va_Nw.same rfl h (hN.1 q hq), fun q hq => va_Nw.same rfl h (hN.2.1 q hq), hN.2.2.moved hA⟩
theorem nwA_warm {s U : State} (hW : s.WarmedH U.vm) (hN : nwA s) : nwA U := ⟨fun q hq => va_Nw.warmF hW (hN.1 q hq), fun q hq => va_Nw.warmM hW (hN.2.1 q hq), hN.2.2.moved hW.alike⟩
/-- a contract's start: the world win, the tables, the heap's size -/
def xPre (D : va_G) (ty : List (ClassId × FieldType)) (win : va_W) (sz : Nat) (av : List Value) : Array Value → State → Prop := va_Pc av (fun U => U.heap.size = sz ∧ va_P D vwCl win U.heap ∧ va_K D vwCl ty U ∧ va_D (fun _ => True) win ∧ nwA U)
/-- a contract's end: the world w -/
def xB (D : va_G) (ty : List (ClassId × FieldType)) (A : Nat → Prop) (w : va_W) (t : State) : Prop := va_P D vwCl w t.heap ∧ va_K D vwCl ty t ∧ va_D A w
abbrev xQi (D : va_G) (ty : List (ClassId × FieldType)) (A : Nat → Prop) (post : Int32 → va_W → Prop) : Array Value → State → Outcome → State → Prop := va_Qi post (xB D ty A) A
abbrev xQl (D : va_G) (ty : List (ClassId × FieldType)) (A : Nat → Prop) (post : Int64 → va_W → Prop) : Array Value → State → Outcome → State → Prop := va_Ql post (xB D ty A) A
abbrev xQv (D : va_G) (ty : List (ClassId × FieldType)) (A : Nat → Prop) (post : va_W → Prop) : Array Value → State → Outcome → State → Prop := va_Qv post (xB D ty A) A
theorem xPre_blind {D : va_G} {ty : List (ClassId × FieldType)} {win : va_W} {sz : Nat} {av : List Value} : FrameBlind (xPre D ty win sz av) := by
  intro a U g mk q
  obtain ⟨q0, q1, qP, qK, qD, qN⟩ := q
  exact ⟨q0, q1, qP, va_K.moved (u := U) (U := U.calling g mk a) (Vm.Alike.refl U.vm) qK, qD, nwA_same (u := U) (U := U.calling g mk a) rfl (Vm.Alike.refl U.vm) qN⟩
theorem xPreS {D : va_G} {ty : List (ClassId × FieldType)} {win w : va_W} {A : Nat → Prop} {s : State} {H : Heap} {av : List Value} (hN : nwA s) (hK : va_K D vwCl ty s) (hP : va_P D vwCl w H) (hD : va_D A w) (isC : List Nat) (hnd : va_nd isC = true) (hC : isC.map (fun i => w[i]?) = win.map some) : PreS s H (xPre D ty win H.size av) av := by
  have hC' : isC.filterMap (fun i => w[i]?) = win := by
    have h1 : (isC.map (fun i => w[i]?)).filterMap id = (win.map some).filterMap id := by rw [hC]
    simpa [List.filterMap_map, Function.comp_def] using h1
  exact ⟨xPre_blind, fun U hU hW => ⟨rfl, by rw [hU], by rw [hU]; exact hP.sub isC hC', va_K.moved hW.alike hK, (hD.sub isC hnd hC).weaken (fun _ _ _ _ => trivial), nwA_warm hW hN⟩⟩
theorem xPreV {D : va_G} {ty : List (ClassId × FieldType)} {win w : va_W} {A : Nat → Prop} {s : State} {H : Heap} {C : String} {b : Nat} {As : List Value} (hN : nwA s) (hK : va_K D vwCl ty s) (hP : va_P D vwCl w H) (hD : va_D A w) (isC : List Nat) (hnd : va_nd isC = true) (hC : isC.map (fun i => w[i]?) = win.map some) (q0 ci : Nat) {r : vw_C} {fs : List Value} (hc : vwCl[ci]? = some r) (he : w[q0]? = some (b, .inr (ci, fs))) (hr : r.1 = C) : PreV s H C b (xPre D ty win H.size (.ref b :: As)) As := by
  subst hr
  exact ⟨xPre_blind, va_recv hK hP hc he, (xPreS hN hK hP hD isC hnd hC).2⟩
section XB
variable {p : Program} {l : Launch} {e : Env} {R : Room} {s : State} {m : MethodId} {args : Array Value} {below : List Frame} {meth : Method} {c : Code} {H : Heap} {locs : List Loc} {cells slots : Nat} {Q : State → Prop}
theorem xb_top {pc : Nat} {ls : Array Slot} {rest : List Value} {x y : Int32} (h : x = y) (k : W p l e R s m args below meth c H locs cells slots Q (F0 m pc ls (.int y :: rest))) : W p l e R s m args below meth c H locs cells slots Q (F0 m pc ls (.int x :: rest)) := h ▸ k
theorem xb_topl {pc : Nat} {ls : Array Slot} {rest : List Value} {x y : Int64} (h : x = y) (k : W p l e R s m args below meth c H locs cells slots Q (F0 m pc ls (.long y :: rest))) : W p l e R s m args below meth c H locs cells slots Q (F0 m pc ls (.long x :: rest)) := h ▸ k
theorem xb_topv {pc : Nat} {ls : Array Slot} {rest : List Value} {x y : Value} (h : x = y) (k : W p l e R s m args below meth c H locs cells slots Q (F0 m pc ls (y :: rest))) : W p l e R s m args below meth c H locs cells slots Q (F0 m pc ls (x :: rest)) := h ▸ k
theorem xb_up {pc : Nat} {st : List Value} (Inv : Nat → Heap → List Loc → Array Slot → Prop) (B i0 : Nat) (h0 : i0 ≤ B) {ls : Array Slot} (h : Inv i0 H locs ls)
    (step : ∀ (i : Nat) (H : Heap) (locs : List Loc) (ls : Array Slot), i < B → Inv i H locs ls → (∀ (H' : Heap) (locs' : List Loc) (ls' : Array Slot), Inv (i + 1) H' locs' ls' → W p l e R s m args below meth c H' locs' cells slots Q (F0 m pc ls' st)) → W p l e R s m args below meth c H locs cells slots Q (F0 m pc ls st))
    (exit : ∀ (H : Heap) (locs : List Loc) (ls : Array Slot), Inv B H locs ls → W p l e R s m args below meth c H locs cells slots Q (F0 m pc ls st)) : W p l e R s m args below meth c H locs cells slots Q (F0 m pc ls st) := by
  have key : ∀ (n i : Nat) (H : Heap) (locs : List Loc) (ls : Array Slot), i + n = B → Inv i H locs ls → W p l e R s m args below meth c H locs cells slots Q (F0 m pc ls st) := by
    intro n
    induction n with
    | zero =>
      intro i H locs ls hi hI
      have h1 : i = B := by omega
      rw [h1] at hI
      exact exit H locs ls hI
    | succ n ih =>
      intro i H locs ls hi hI
      exact step i H locs ls (by omega) hI (fun H' locs' ls' hI' => ih (i + 1) H' locs' ls' (by omega) hI')
  exact key (B - i0) i0 H locs ls (by omega) h
variable {D : va_G} {ty : List (ClassId × FieldType)} {win wr w : va_W} {A : Nat → Prop} {H0 : Heap} {pc mc ms : Nat} {ls : Array Slot} {st0 rest : List Value} {a : Array Value}
theorem xCi {post : Int32 → va_W → Prop} (hP : va_P D vwCl w H) (hD : va_D A w) (hS : va_S A H0 H locs) (hA : ∀ q, H0.size ≤ q → A q) (isC isR : List Nat) (hC : isC.map (fun i => w[i]?) = win.map some) (hR : isR.map (fun i => w[i]?) = wr.map some) (hn : va_nd isR = true) (hdis : ∀ i ∈ isR, i ∉ isC)
    (hr : va_Run p l e R s m args below meth c H locs cells slots mc ms (F0 m pc ls st0) rest (xQi D ty (va_A win H.size) post a) (va_A win H.size))
    (kk : ∀ (r : Int32) (w1 : va_W) (H1 : Heap) (locs1 : List Loc), post r w1 → va_P D vwCl (wr ++ w1) H1 → va_D A (wr ++ w1) → va_S A H0 H1 locs1 → W p l e R s m args below meth c H1 locs1 (cells + mc) (slots + ms) Q (F0 m (pc + 3) ls (.int r :: rest))) : W p l e R s m args below meth c H locs cells slots Q (F0 m pc ls st0) := by
  have hF := va_free (wc := win) hD hS hA isC hC
  refine va_calli hr hS (fun q _ h => hF q h) hF (fun r u t H1 locs1 ht hvm hw hB hz1 hk1 hS1 => ?_)
  obtain ⟨hP1, hK1, hD1⟩ := hB
  rw [ht] at hP1
  obtain ⟨hP2, hD2⟩ := va_join (wr := wr) (w1 := u) hP hD isC isR hC hR hn hdis hk1 hF hP1 hD1
  exact kk r u H1 locs1 hw hP2 hD2 hS1
theorem xCl {post : Int64 → va_W → Prop} (hP : va_P D vwCl w H) (hD : va_D A w) (hS : va_S A H0 H locs) (hA : ∀ q, H0.size ≤ q → A q) (isC isR : List Nat) (hC : isC.map (fun i => w[i]?) = win.map some) (hR : isR.map (fun i => w[i]?) = wr.map some) (hn : va_nd isR = true) (hdis : ∀ i ∈ isR, i ∉ isC)
    (hr : va_Run p l e R s m args below meth c H locs cells slots mc ms (F0 m pc ls st0) rest (xQl D ty (va_A win H.size) post a) (va_A win H.size))
    (kk : ∀ (r : Int64) (w1 : va_W) (H1 : Heap) (locs1 : List Loc), post r w1 → va_P D vwCl (wr ++ w1) H1 → va_D A (wr ++ w1) → va_S A H0 H1 locs1 → W p l e R s m args below meth c H1 locs1 (cells + mc) (slots + ms) Q (F0 m (pc + 3) ls (.long r :: rest))) : W p l e R s m args below meth c H locs cells slots Q (F0 m pc ls st0) := by
  have hF := va_free (wc := win) hD hS hA isC hC
  refine va_calll hr hS (fun q _ h => hF q h) hF (fun r u t H1 locs1 ht hvm hw hB hz1 hk1 hS1 => ?_)
  obtain ⟨hP1, hK1, hD1⟩ := hB
  rw [ht] at hP1
  obtain ⟨hP2, hD2⟩ := va_join (wr := wr) (w1 := u) hP hD isC isR hC hR hn hdis hk1 hF hP1 hD1
  exact kk r u H1 locs1 hw hP2 hD2 hS1
theorem xCv {post : va_W → Prop} (hP : va_P D vwCl w H) (hD : va_D A w) (hS : va_S A H0 H locs) (hA : ∀ q, H0.size ≤ q → A q) (isC isR : List Nat) (hC : isC.map (fun i => w[i]?) = win.map some) (hR : isR.map (fun i => w[i]?) = wr.map some) (hn : va_nd isR = true) (hdis : ∀ i ∈ isR, i ∉ isC)
    (hr : va_Run p l e R s m args below meth c H locs cells slots mc ms (F0 m pc ls st0) rest (xQv D ty (va_A win H.size) post a) (va_A win H.size))
    (kk : ∀ (w1 : va_W) (H1 : Heap) (locs1 : List Loc), post w1 → va_P D vwCl (wr ++ w1) H1 → va_D A (wr ++ w1) → va_S A H0 H1 locs1 → W p l e R s m args below meth c H1 locs1 (cells + mc) (slots + ms) Q (F0 m (pc + 3) ls rest)) : W p l e R s m args below meth c H locs cells slots Q (F0 m pc ls st0) := by
  have hF := va_free (wc := win) hD hS hA isC hC
  refine va_callv hr hS (fun q _ h => hF q h) hF (fun u t H1 locs1 ht hvm hw hB hz1 hk1 hS1 => ?_)
  obtain ⟨hP1, hK1, hD1⟩ := hB
  rw [ht] at hP1
  obtain ⟨hP2, hD2⟩ := va_join (wr := wr) (w1 := u) hP hD isC isR hC hR hn hdis hk1 hF hP1 hD1
  exact kk u H1 locs1 hw hP2 hD2 hS1
end XB
theorem xb_uniq {U : State} {ty : FieldType} {c1 c2 : ClassId} (h1 : va_RA U c1 ty) (h2 : va_RA U c2 ty) : c1 = c2 := by
  cases ty with
  | object C =>
    obtain ⟨-, -, -, -, -, e1⟩ := h1
    obtain ⟨-, -, -, -, -, e2⟩ := h2
    exact Option.some.inj (e1.symm.trans e2)
  | _ => exact Option.some.inj (Eq.trans (Eq.symm h1) h2)
section XN
variable {p : Program} {l : Launch} {e : Env} {R : Room} {s : State} {m : MethodId} {args : Array Value} {below : List Frame} {meth : Method} {c : Code} {H : Heap} {locs : List Loc} {cells slots : Nat} {Q : State → Prop}
variable {cc : ByteArray} {pc : Nat} {ls : Array Slot} {rest : List Value} {D : va_G} {cl : List vw_C} {A : Nat → Prop} {tys : List (ClassId × FieldType)} {ws : va_W} {H0 : Heap}
theorem xnewa (hexec : p.tables.exec = Jvm.exec) (hb : c.code = cc) {atype : ArrayType} (harr : (Cond.arrayClass (newarray.typeOf atype)).before args s = true) {ty : FieldType} (hty : newarray.typeOf atype = ty) (hK : va_K D cl tys s) (t0 : Nat) {cA : ClassId} (ht : tys[t0]? = some (cA, ty)) (hP : va_P D cl ws H) (hD : va_D A ws) (hS : va_S A H0 H locs) (hA : ∀ q, H0.size ≤ q → A q)
    {n : Int32} {N' : Nat} {a0 : vp_A} (ha : ∀ cA : ClassId, vp_cell cA a0 = arrV cA N' (fun _ => defaultValue ty)) (hn : ¬ n < 0) (hN : n.toNatClampNeg = N') (hbytes : N' * componentBytes ty ≤ 536870912) (hcells : cells + 1 ≤ R.cells) (hslots : slots + N' ≤ R.slots) (hdg : decode cc pc = .ok (.newarray atype, 2))
    (kk : ∀ (q : Nat) (H1 : Heap), va_P D cl (ws ++ [(q, .inl (cA, a0))]) H1 → va_D A (ws ++ [(q, .inl (cA, a0))]) → va_S A H0 H1 locs →
      W p l e R s m args below meth c H1 locs (cells + 1) (slots + N') Q (F0 m (pc + 2) ls (.ref q :: rest))) : W p l e R s m args below meth c H locs cells slots Q (F0 m pc ls (.int n :: rest)) := by
  refine va_newa hexec hb harr hty hK hP hD hS hA ha hn hN hbytes hcells hslots hdg (fun q cA2 H1 hK2 hP2 hD2 hS2 => ?_)
  have e1 : cA2 = cA := xb_uniq (hK2.2 tys.length (cA2, ty) (by simp)).2 (hK.2 t0 _ ht).2
  subst e1
  exact kk q H1 hP2 hD2 hS2
theorem xnewq (hexec : p.tables.exec = Jvm.exec) (hb : c.code = cc) {own C : String} {index : Nat} (hown : s.vm.findClass own = some m.cls) (hclink : (Cond.classLink own index C).before args s = true) (hover : va_AO C s) (hK : va_K D cl tys s) (t0 : Nat) {cA : ClassId} (ht : tys[t0]? = some (cA, .object C)) (hP : va_P D cl ws H) (hD : va_D A ws) (hS : va_S A H0 H locs) (hA : ∀ q, H0.size ≤ q → A q)
    {n : Int32} {N' : Nat} (hn : ¬ n < 0) (hN : n.toNatClampNeg = N') (hbytes : N' * 4 ≤ 536870912) (hcells : cells + 1 ≤ R.cells) (hslots : slots + N' ≤ R.slots) (hdg : decode cc pc = .ok (.anewarray index, 3))
    (kk : ∀ (q : Nat) (H1 : Heap), va_P D cl (ws ++ [(q, .inl (cA, N', .inr (.inr (.inr (.inr (fun _ => none))))))]) H1 → va_D A (ws ++ [(q, .inl (cA, N', .inr (.inr (.inr (.inr (fun _ => none))))))]) → va_S A H0 H1 locs →
      W p l e R s m args below meth c H1 locs (cells + 1) (slots + N') Q (F0 m (pc + 3) ls (.ref q :: rest))) : W p l e R s m args below meth c H locs cells slots Q (F0 m pc ls (.int n :: rest)) := by
  refine va_newq hexec hb hown hclink hover hK hP hD hS hA hn hN hbytes hcells hslots hdg (fun q cA2 H1 hK2 hP2 hD2 hS2 => ?_)
  have e1 : cA2 = cA := xb_uniq (hK2.2 tys.length (cA2, .object C) (by simp)).2 (hK.2 t0 _ ht).2
  subst e1
  exact kk q H1 hP2 hD2 hS2
end XN
theorem up_fill {f g : Nat → Int32} {i n : Nat} {v : Int32} (hi : i < n) (hn : n < 2 ^ 31) (h : ∀ j, j < i → f j = v) (e : upd f (Int32.toNatClampNeg (nI i)) v = g) : ∀ j, j < i + 1 → g j = v := by
  intro j hj
  subst e
  rw [nI_clamp (by omega)]
  by_cases hji : j = i
  · subst hji; exact pk_us
  · rw [pk_un hji]; exact h j (by omega)
theorem up_keep {f : Nat → Int32} {k : Nat} {v : Int32} (h : f = fun _ => v) : upd f k v = fun _ => v := by
  subst h
  funext j
  by_cases hj : j = k
  · subst hj; exact pk_us
  · exact pk_un hj
theorem ib_in {n : Int32} {N : Nat} (h0 : ¬ n < 0) (h : ¬ nI N ≤ n) (hN : N < 2 ^ 31) : vp_in n N := by
  obtain ⟨j, hj, e, -⟩ := pk_mu h0 h hN
  rw [e]
  exact vp_in_nI hj hN
theorem ib_12 {n : Int32} (c1 : ¬ n < 1) (c2 : ¬ 12 < n) : ∃ j : Nat, j < 12 ∧ n = nI (j + 1) := by
  rcases pk_ix n (n := 13) (by decide) with h | h | ⟨j, hj, e⟩
  · exact absurd h (by grind)
  · have h13 : (13 : Int32) ≤ n := h
    exact absurd h13 (by grind)
  · cases j with
    | zero => subst e; exact absurd (by decide : nI 0 < 1) c1
    | succ j => exact ⟨j, by omega, e⟩
theorem lk_out {x a b : Int32} {p q d : Int} (h0 : ¬ x = a) (h1 : ¬ x = b) (hab : a.toInt < b.toInt) : Op.lookupswitch.offset [(a.toInt, p), (b.toInt, q)] d x.toInt = d := by
  have e0 : ¬ x.toInt = a.toInt := fun e => h0 (Int32.toInt_inj.mp e)
  have e1 : ¬ x.toInt = b.toInt := fun e => h1 (Int32.toInt_inj.mp e)
  simp [Op.lookupswitch.offset]
  grind
theorem cmp_same (x : Int64) : lg_cmp x x = 0 := by
  simp [lg_cmp]
theorem ib_3 {x : Int32} (h0 : ¬ x < 0) (h : x < 3) : x = 0 ∨ x = 1 ∨ x = 2 := by
  rcases pk_ix x (n := 3) (by decide) with h1 | h1 | ⟨j, hj, e⟩
  · exact absurd h1 h0
  · have h2 : (3 : Int32) ≤ x := h1
    exact absurd h2 (by grind)
  · rcases (show j = 0 ∨ j = 1 ∨ j = 2 by omega) with rfl | rfl | rfl
    · exact Or.inl e
    · exact Or.inr (Or.inl e)
    · exact Or.inr (Or.inr e)
theorem ib_10 (x : Int32) : (x < 0 ∨ 10 ≤ x) ∨ x = 0 ∨ x = 1 ∨ x = 2 ∨ x = 3 ∨ x = 4 ∨ x = 5 ∨ x = 6 ∨ x = 7 ∨ x = 8 ∨ x = 9 := by
  rcases pk_ix x (n := 10) (by decide) with h1 | h1 | ⟨j, hj, e⟩
  · exact Or.inl (Or.inl h1)
  · exact Or.inl (Or.inr h1)
  · refine Or.inr ?_
    rcases (show j = 0 ∨ j = 1 ∨ j = 2 ∨ j = 3 ∨ j = 4 ∨ j = 5 ∨ j = 6 ∨ j = 7 ∨ j = 8 ∨ j = 9 by omega) with rfl | rfl | rfl | rfl | rfl | rfl | rfl | rfl | rfl | rfl <;> (have e2 := e; simp [nI] at e2; subst e; decide)
theorem tb_out {x : Int32} (h : x < 0 ∨ 10 ≤ x) : x.toInt < 0 ∨ 9 < x.toInt := by
  rcases h with h | h
  · exact Or.inl (Int32.lt_iff_toInt_lt.mp h)
  · have h1 : (10 : Int32).toInt ≤ x.toInt := Int32.le_iff_toInt_le.mp h
    have h2 : (10 : Int32).toInt = 10 := rfl
    exact Or.inr (by omega)
theorem up_zero {f g : Nat → Int32} {N k : Nat} {v : Int32} (h : ∀ j, j < N → f j = 0) (hv : v = 0) (e : upd f k v = g) : ∀ j, j < N → g j = 0 := by
  intro j hj
  subst e
  by_cases hjk : j = k
  · subst hjk; rw [pk_us]; exact hv
  · rw [pk_un hjk]; exact h j hj
theorem and_zero (x : Int32) : x &&& 0 = 0 := by simp
theorem nI_succ_sub2 (n : Nat) : nI (n + 1) - 2 = nI n - 1 := by
  rw [nI_succ]; grind
theorem nI_m1_lt {q : Nat} (h : q < 2 ^ 30) : nI q - 1 < nI q := by
  have h1 : (nI q - nI 1).toInt = (q : Int) - 1 := pk_sub_toInt h (by decide)
  have h2 : (nI q).toInt = (q : Int) := nI_toInt (by omega)
  refine Int32.lt_iff_toInt_lt.mpr ?_
  rw [h2]
  show (nI q - nI 1).toInt < (q : Int)
  rw [h1]
  omega
theorem ib_01 (x : Int32) : x = 0 ∨ x = 1 ∨ (¬ x = 0 ∧ ¬ x = 1) := by
  by_cases h : x = 0
  · exact Or.inl h
  · by_cases h2 : x = 1
    · exact Or.inr (Or.inl h2)
    · exact Or.inr (Or.inr ⟨h, h2⟩)
theorem ib_can {n q : Int32} (c1 : ¬ n < 1) (c2 : ¬ 12 < n) (c3 : ¬ q < 0) (c4 : q < n) : ∃ N Q : Nat, N < 12 ∧ Q < N + 1 ∧ n = nI (N + 1) ∧ q = nI Q := by
  obtain ⟨N, hN, e⟩ := ib_12 c1 c2
  obtain ⟨Q, hQ, e2⟩ := nI_of c3
  subst e; subst e2
  exact ⟨N, Q, hN, (nI_ltI (by omega) (by omega)).mp c4, rfl, rfl⟩
section XW
variable {p : Program} {l : Launch} {e : Env} {R : Room} {s : State} {m : MethodId} {args : Array Value} {below : List Frame} {meth : Method} {c : Code} {H : Heap} {locs : List Loc} {cells slots : Nat} {Q : State → Prop}
theorem xb_wh {pc : Nat} {st : List Value} (Inv : Nat → Heap → List Loc → Array Slot → Prop) {ls : Array Slot} {n : Nat} (h : Inv n H locs ls)
    (step : ∀ (n : Nat) (H : Heap) (locs : List Loc) (ls : Array Slot), Inv n H locs ls → (∀ (k : Nat) (H' : Heap) (locs' : List Loc) (ls' : Array Slot), k < n → Inv k H' locs' ls' → W p l e R s m args below meth c H' locs' cells slots Q (F0 m pc ls' st)) → W p l e R s m args below meth c H locs cells slots Q (F0 m pc ls st)) : W p l e R s m args below meth c H locs cells slots Q (F0 m pc ls st) := by
  have key : ∀ (n : Nat) (H : Heap) (locs : List Loc) (ls : Array Slot), Inv n H locs ls → W p l e R s m args below meth c H locs cells slots Q (F0 m pc ls st) := by
    intro n
    induction n using Nat.strongRecOn with
    | ind n ih => intro H locs ls hI; exact step n H locs ls hI (fun k H' locs' ls' hk hI' => ih k hk H' locs' ls' hI')
  exact key n H locs ls h
theorem xb_cut {pc pc0 : Nat} {st st0 : List Value} {ls : Array Slot} (Inv : Heap → List Loc → Array Slot → Prop)
    (k : ∀ (H : Heap) (locs : List Loc) (ls : Array Slot), Inv H locs ls → W p l e R s m args below meth c H locs cells slots Q (F0 m pc ls st))
    (body : (∀ (H : Heap) (locs : List Loc) (ls : Array Slot), Inv H locs ls → W p l e R s m args below meth c H locs cells slots Q (F0 m pc ls st)) → W p l e R s m args below meth c H locs cells slots Q (F0 m pc0 ls st0)) : W p l e R s m args below meth c H locs cells slots Q (F0 m pc0 ls st0) := body k
end XW
theorem nb_and (a b : Nat) : nI a &&& nI b = nI (a &&& b) := by
  apply Int32.toBitVec_inj.mp
  show BitVec.ofNat 32 a &&& BitVec.ofNat 32 b = BitVec.ofNat 32 (a &&& b)
  exact BitVec.ofNat_and.symm
theorem nb_or (a b : Nat) : nI a ||| nI b = nI (a ||| b) := by
  apply Int32.toBitVec_inj.mp
  show BitVec.ofNat 32 a ||| BitVec.ofNat 32 b = BitVec.ofNat 32 (a ||| b)
  exact BitVec.ofNat_or.symm
theorem nb_xor (a b : Nat) : nI a ^^^ nI b = nI (a ^^^ b) := by
  apply Int32.toBitVec_inj.mp
  show BitVec.ofNat 32 a ^^^ BitVec.ofNat 32 b = BitVec.ofNat 32 (a ^^^ b)
  exact BitVec.ofNat_xor.symm
theorem nb_31 {i : Nat} (h : i < 32) : nI i &&& 31 = nI i := by
  have h1 := pk_andN (n := i) (by omega) (m := 31) 5 (by decide)
  rw [h1, Nat.mod_eq_of_lt (by omega)]
theorem nb_smod {i : Nat} (h : i < 32) : ((nI i).toBitVec.smod 32).toNat = i := by
  have h2 : i = 0 ∨ i = 1 ∨ i = 2 ∨ i = 3 ∨ i = 4 ∨ i = 5 ∨ i = 6 ∨ i = 7 ∨ i = 8 ∨ i = 9 ∨ i = 10 ∨ i = 11 ∨ i = 12 ∨ i = 13 ∨ i = 14 ∨ i = 15 ∨ i = 16 ∨ i = 17 ∨ i = 18 ∨ i = 19 ∨ i = 20 ∨ i = 21 ∨ i = 22 ∨ i = 23 ∨ i = 24 ∨ i = 25 ∨ i = 26 ∨ i = 27 ∨ i = 28 ∨ i = 29 ∨ i = 30 ∨ i = 31 := by omega
  rcases h2 with rfl | rfl | rfl | rfl | rfl | rfl | rfl | rfl | rfl | rfl | rfl | rfl | rfl | rfl | rfl | rfl | rfl | rfl | rfl | rfl | rfl | rfl | rfl | rfl | rfl | rfl | rfl | rfl | rfl | rfl | rfl | rfl <;> decide
theorem nb_shl {a i : Nat} (h : i < 32) : nI a <<< (nI i &&& 31) = nI (a * 2 ^ i) := by
  rw [nb_31 h]
  have h1 := pk_shl (nI a) (nI i) i (nb_smod h)
  apply Int32.toBitVec_inj.mp
  apply BitVec.eq_of_toNat_eq
  rw [h1]
  simp [nI]
theorem nb_shr {a i : Nat} (ha : a < 2 ^ 31) (h : i < 32) : nI a >>> (nI i &&& 31) = nI (a / 2 ^ i) := by
  rw [nb_31 h]
  exact pk_shrN ha (nI i) i (nb_smod h)
theorem nb_ushr {a i : Nat} (ha : a < 2 ^ 32) (h : i < 32) : ((nI a).toUInt32 >>> ((nI i).toUInt32 &&& Int32.toUInt32 31)).toInt32 = nI (a / 2 ^ i) := by
  refine pk_ushrN ha (nI i) i ?_
  have h2 : i = 0 ∨ i = 1 ∨ i = 2 ∨ i = 3 ∨ i = 4 ∨ i = 5 ∨ i = 6 ∨ i = 7 ∨ i = 8 ∨ i = 9 ∨ i = 10 ∨ i = 11 ∨ i = 12 ∨ i = 13 ∨ i = 14 ∨ i = 15 ∨ i = 16 ∨ i = 17 ∨ i = 18 ∨ i = 19 ∨ i = 20 ∨ i = 21 ∨ i = 22 ∨ i = 23 ∨ i = 24 ∨ i = 25 ∨ i = 26 ∨ i = 27 ∨ i = 28 ∨ i = 29 ∨ i = 30 ∨ i = 31 := by omega
  rcases h2 with rfl | rfl | rfl | rfl | rfl | rfl | rfl | rfl | rfl | rfl | rfl | rfl | rfl | rfl | rfl | rfl | rfl | rfl | rfl | rfl | rfl | rfl | rfl | rfl | rfl | rfl | rfl | rfl | rfl | rfl | rfl | rfl <;> decide
def rgN (f : Nat → Int32) (n B : Nat) : Prop := ∀ j, j < n → ∃ q, q < B ∧ f j = nI q
def rgM (f : Nat → Int32) (n B : Nat) : Prop := ∀ j, j < n → f j = -1 ∨ ∃ q, q < B ∧ f j = nI q
theorem rgN_up {f g : Nat → Int32} {n B k q : Nat} {i v : Int32} (h : rgN f n B) (hi : i = nI k) (hk : k < 2 ^ 31) (hv : v = nI q) (hq : q < B) (e : upd f (Int32.toNatClampNeg i) v = g) : rgN g n B := by
  intro j hj
  subst e; subst hi
  rw [nI_clamp hk]
  by_cases hjk : j = k
  · subst hjk; exact ⟨q, hq, by rw [pk_us]; exact hv⟩
  · rw [pk_un hjk]; exact h j hj
theorem rgM_up {f g : Nat → Int32} {n B k : Nat} {i v : Int32} (h : rgM f n B) (hi : i = nI k) (hk : k < 2 ^ 31) (hv : v = -1 ∨ ∃ q, q < B ∧ v = nI q) (e : upd f (Int32.toNatClampNeg i) v = g) : rgM g n B := by
  intro j hj
  subst e; subst hi
  rw [nI_clamp hk]
  by_cases hjk : j = k
  · subst hjk; rw [pk_us]; exact hv
  · rw [pk_un hjk]; exact h j hj
theorem rgN_less {f : Nat → Int32} {n m B : Nat} (h : rgN f n B) (hm : m ≤ n) : rgN f m B := fun j hj => h j (by omega)
theorem rgM_less {f : Nat → Int32} {n m B : Nat} (h : rgM f n B) (hm : m ≤ n) : rgM f m B := fun j hj => h j (by omega)
theorem has_of {x : Int32} {w : Nat} (h0 : ¬ x < 0) (h1 : ¬ nI w ≤ x) (hw : w < 2 ^ 31) : ∃ q, q < w ∧ x = nI q := by
  obtain ⟨j, hj, e, -⟩ := pk_mu h0 h1 hw
  exact ⟨j, hj, e⟩
theorem isin_bit {bt ix : Nat} (h : ¬ nI (bt / 2 ^ ix &&& 1) = 0) : bt / 2 ^ ix % 2 = 1 := by
  rcases Nat.mod_two_eq_zero_or_one (bt / 2 ^ ix) with h1 | h1
  · exact absurd (by rw [Nat.and_one_is_mod, h1]; rfl) h
  · exact h1
theorem done_lt {dn q : Nat} (h : dn < 64) (hq : q < 6) : dn ||| 1 * 2 ^ q < 64 := by
  have h1 : 1 * 2 ^ q < 2 ^ 6 := by rw [Nat.one_mul]; exact Nat.pow_lt_pow_right (by omega) hq
  exact Nat.or_lt_two_pow (n := 6) h h1
theorem ib_ab (x : Int32) {a b : Int32} : x = a ∨ x = b ∨ (¬ x = a ∧ ¬ x = b) := by
  by_cases h : x = a
  · exact Or.inl h
  · by_cases h2 : x = b
    · exact Or.inr (Or.inl h2)
    · exact Or.inr (Or.inr ⟨h, h2⟩)
theorem nz01 {v : Int32} (h : v = 0 ∨ v = 1) : narrow .boolean (.int v) = .int v := by
  rcases h with rfl | rfl <;> rfl
theorem at_out1 {x : Int32} {n : Nat} (h : x < 0) (hn : n ≤ 1600) : ∀ k, k < n → x ≠ nI k := by
  intro k hk e
  subst e
  exact nI_pos (by omega) h
theorem at_out2 {x : Int32} {n : Nat} (h : nI n ≤ x) (hn : n ≤ 1600) : ∀ k, k < n → x ≠ nI k := by
  intro k hk e
  subst e
  exact nI_ge hk (by omega) h
theorem tsw_hi {x : Int32} {n : Nat} {h : Int} (hx : nI n ≤ x) (hn : n < 2 ^ 31) (hh : h < (n : Int)) : h < x.toInt := by
  have h1 := Int32.le_iff_toInt_le.mp hx
  rw [nI_toInt hn] at h1
  omega
