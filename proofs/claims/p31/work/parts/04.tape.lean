theorem dX7_at_0 : decode cX7_at 0 = .ok (.iload_n 1, 1) := by decide +kernel
theorem dX7_at_1 : decode cX7_at 1 = .ok (.ifCond .lt 24, 3) := by decide +kernel
theorem dX7_at_4 : decode cX7_at 4 = .ok (.iload_n 1, 1) := by decide +kernel
theorem dX7_at_5 : decode cX7_at 5 = .ok (.aload_n 0, 1) := by decide +kernel
theorem dX7_at_6 : decode cX7_at 6 = .ok (.getfield 15, 3) := by decide +kernel
theorem dX7_at_9 : decode cX7_at 9 = .ok (.if_icmp .ge 16, 3) := by decide +kernel
theorem dX7_at_12 : decode cX7_at 12 = .ok (.aload_n 0, 1) := by decide +kernel
theorem dX7_at_13 : decode cX7_at 13 = .ok (.getfield 9, 3) := by decide +kernel
theorem dX7_at_16 : decode cX7_at 16 = .ok (.iload_n 1, 1) := by decide +kernel
theorem dX7_at_17 : decode cX7_at 17 = .ok (.baload, 1) := by decide +kernel
theorem dX7_at_18 : decode cX7_at 18 = .ok (.sipush 255, 3) := by decide +kernel
theorem dX7_at_21 : decode cX7_at 21 = .ok (.iand, 1) := by decide +kernel
theorem dX7_at_22 : decode cX7_at 22 = .ok (.goto 4, 3) := by decide +kernel
theorem dX7_at_25 : decode cX7_at 25 = .ok (.iconst (-1), 1) := by decide +kernel
theorem dX7_at_26 : decode cX7_at 26 = .ok (.ireturn, 1) := by decide +kernel
set_option maxHeartbeats 4000000 in
set_option maxRecDepth 100000 in
theorem c_X7_at_in (l : Launch) (D : va_G) (cB cI cJ cS cZ cO : ClassId) (sz : Nat) (o : Nat) (pl : Nat) (tp_bytes : Nat) (sz0 : Nat) (fb : Nat → Int32) (hsz : sz0 ≤ 1600) (hpl : pl < sz0) : Met l yX7_at wsX7_at ({ frames := 0, cells := 0, slots := 0, locals := 0 }) (xPre D (tyL cB cI cJ cS cZ cO) [(o, .inr (7, [.ref tp_bytes, .int (nI sz0)])), (tp_bytes, .inl (cB, 1600, .inl fb))] sz [.ref o, .int (nI pl)]) (xQi D (tyL cB cI cJ cS cZ cO) (va_A [(o, .inr (7, [.ref tp_bytes, .int (nI sz0)])), (tp_bytes, .inl (cB, 1600, .inl fb))] sz) (fun (r : Int32) (u : va_W) => u = [(o, .inr (7, [.ref tp_bytes, .int (nI sz0)])), (tp_bytes, .inl (cB, 1600, .inl fb))] ∧ r = fb pl &&& 255)) 0 0 (va_A [(o, .inr (7, [.ref tp_bytes, .int (nI sz0)])), (tp_bytes, .inl (cB, 1600, .inl fb))] sz) := by
  refine Met.ofW (cc := cX7_at) (maxL := 2) (ret := (some .int)) (by decide) rfl ?_
  intro p e s m args below meth c s₁ B hml hv
  obtain ⟨rfl, hsz, hP, hK, hD0, hN⟩ := hv
  have hx := B.exec
  have hb := B.bytes
  have hr := B.returns
  have hts := atoms_spec (ws := wsX7_at) B.pre
  have hown : s.vm.findClass RX7 = some m.cls := findClass_of_methodNamed B.named
  have hlocks := B.notSynchronized
  subst hsz
  have hD := hD0.self (sz := s.heap.size)
  generalize hAe : va_A [(o, .inr (7, [.ref tp_bytes, .int (nI sz0)])), (tp_bytes, .inl (cB, 1600, .inl fb))] s.heap.size = A at hD ⊢
  have hA : ∀ q : Nat, s.heap.size ≤ q → A q := fun q h => by rw [← hAe]; exact Or.inr h
  have hS : va_S A s.heap s.heap [] := va_S.rf
  have hP : va_P D vwCl [(o, .inr (7, [.ref tp_bytes, .int (nI sz0)])), (tp_bytes, .inl (cB, 1600, .inl fb))] s.heap := hP
  have hl := lv_entry ([.ref o, .int (nI pl)]) (n := 2) (Nat.le_of_ble_eq_true rfl)
  rw [lg_entry_eq]
  generalize (lg_sl ([.ref o, .int (nI pl)]) ++ List.replicate (2 - (lg_sl ([.ref o, .int (nI pl)])).length) Slot.unset).toArray = ls at hl ⊢
  have hl : lv_has ls 2 [(0, .ref o), (1, .int (nI pl))] := hl
  refine lv_iload_n hx hb dX7_at_0 rfl (lv_at hl 1 rfl) ?_
  refine lv_if_lt (tgt := 25) hx hb dX7_at_1 (by decide) (fun c_1 => absurd c_1 (nI_pos (by omega))) (fun c_1 => ?_)
  refine lv_iload_n hx hb dX7_at_4 rfl (lv_at hl 1 rfl) ?_
  refine lv_aload_n hx hb dX7_at_5 rfl (lv_at hl 0 rfl) ?_
  refine va_get (D := D) (ci := 7) (v := .int (nI sz0)) (C := RX7) (T := TX7) (N := 2) hx hb hts (by decide +kernel) hown hK hP 0 rfl rfl 1 (by decide) (hts (.fieldLink RX7 15 "LastLetter$Tape" "size" "I") (by decide +kernel)) (fun _ h9 => h9) rfl dX7_at_6 ?_
  refine lv_icmp_ge (tgt := 25) hx hb dX7_at_9 (by decide) (fun c_2 => absurd c_2 (nI_ge hpl (by omega))) (fun c_2 => ?_)
  refine lv_aload_n hx hb dX7_at_12 rfl (lv_at hl 0 rfl) ?_
  refine va_get (D := D) (ci := 7) (v := .ref tp_bytes) (C := RX7) (T := TX7) (N := 2) hx hb hts (by decide +kernel) hown hK hP 0 rfl rfl 0 (by decide) (hts (.fieldLink RX7 9 "LastLetter$Tape" "bytes" "[B") (by decide +kernel)) (fun _ h9 => h9) rfl dX7_at_13 ?_
  refine lv_iload_n hx hb dX7_at_16 rfl (lv_at hl 1 rfl) ?_
  refine va_bald hx hb hK hP 1 0 rfl rfl (vp_in_nI (by omega) (by omega)) dX7_at_17 ?_
  refine xb_top (y := fb pl) (by rw [nI_clamp (by omega)]) ?_
  refine lv_sipush (v := 255) hx hb dX7_at_18 (by decide) ?_
  refine lv_iand hx hb dX7_at_21 ?_
  refine lv_goto (tgt := 26) hx hb dX7_at_22 (by decide) ?_
  have hP9 := hP.sub (ws' := [(o, .inr (7, [.ref tp_bytes, .int (nI sz0)])), (tp_bytes, .inl (cB, 1600, .inl fb))]) [0, 1] rfl
  have hD9 := hD.sub (ws' := [(o, .inr (7, [.ref tp_bytes, .int (nI sz0)])), (tp_bytes, .inl (cB, 1600, .inl fb))]) [0, 1] (by decide) rfl
  refine W.widen (k := 0) (n := 0) (Nat.le_of_ble_eq_true rfl) (Nat.le_of_ble_eq_true rfl) ?_
  exact W.iret (v := (fb pl) &&& 255) hx hb hr (fun tz htz hWz => ⟨⟨(fb pl) &&& 255, [(o, .inr (7, [.ref tp_bytes, .int (nI sz0)])), (tp_bytes, .inl (cB, 1600, .inl fb))], rfl, ⟨rfl, rfl⟩, by rw [htz]; exact hP9, va_K.moved hWz.alike hK, hD9⟩, hS.F htz⟩) hS.2.2 dX7_at_26

set_option maxHeartbeats 4000000 in
set_option maxRecDepth 100000 in
theorem c_X7_at (l : Launch) (D : va_G) (cB cI cJ cS cZ cO : ClassId) (sz : Nat) (o : Nat) (x : Int32) (tp_bytes : Nat) (sz0 : Nat) (fb : Nat → Int32) (hsz : sz0 ≤ 1600) : Met l yX7_at wsX7_at ({ frames := 0, cells := 0, slots := 0, locals := 0 }) (xPre D (tyL cB cI cJ cS cZ cO) [(o, .inr (7, [.ref tp_bytes, .int (nI sz0)])), (tp_bytes, .inl (cB, 1600, .inl fb))] sz [.ref o, .int x]) (xQi D (tyL cB cI cJ cS cZ cO) (va_A [(o, .inr (7, [.ref tp_bytes, .int (nI sz0)])), (tp_bytes, .inl (cB, 1600, .inl fb))] sz) (fun (r : Int32) (u : va_W) => u = [(o, .inr (7, [.ref tp_bytes, .int (nI sz0)])), (tp_bytes, .inl (cB, 1600, .inl fb))] ∧ ((r = -1 ∧ ∀ k, k < sz0 → x ≠ nI k) ∨ ∃ k, k < sz0 ∧ x = nI k ∧ r = fb k &&& 255))) 0 0 (va_A [(o, .inr (7, [.ref tp_bytes, .int (nI sz0)])), (tp_bytes, .inl (cB, 1600, .inl fb))] sz) := by
  refine Met.ofW (cc := cX7_at) (maxL := 2) (ret := (some .int)) (by decide) rfl ?_
  intro p e s m args below meth c s₁ B hml hv
  obtain ⟨rfl, hsz, hP, hK, hD0, hN⟩ := hv
  have hx := B.exec
  have hb := B.bytes
  have hr := B.returns
  have hts := atoms_spec (ws := wsX7_at) B.pre
  have hown : s.vm.findClass RX7 = some m.cls := findClass_of_methodNamed B.named
  have hlocks := B.notSynchronized
  subst hsz
  have hD := hD0.self (sz := s.heap.size)
  generalize hAe : va_A [(o, .inr (7, [.ref tp_bytes, .int (nI sz0)])), (tp_bytes, .inl (cB, 1600, .inl fb))] s.heap.size = A at hD ⊢
  have hA : ∀ q : Nat, s.heap.size ≤ q → A q := fun q h => by rw [← hAe]; exact Or.inr h
  have hS : va_S A s.heap s.heap [] := va_S.rf
  have hP : va_P D vwCl [(o, .inr (7, [.ref tp_bytes, .int (nI sz0)])), (tp_bytes, .inl (cB, 1600, .inl fb))] s.heap := hP
  have hl := lv_entry ([.ref o, .int x]) (n := 2) (Nat.le_of_ble_eq_true rfl)
  rw [lg_entry_eq]
  generalize (lg_sl ([.ref o, .int x]) ++ List.replicate (2 - (lg_sl ([.ref o, .int x])).length) Slot.unset).toArray = ls at hl ⊢
  have hl : lv_has ls 2 [(0, .ref o), (1, .int x)] := hl
  refine lv_iload_n hx hb dX7_at_0 rfl (lv_at hl 1 rfl) ?_
  refine lv_if_lt (tgt := 25) hx hb dX7_at_1 (by decide) (fun c_1 => ?_) (fun c_1 => ?_)
  · refine lv_iconst (v := (-1)) hx hb dX7_at_25 (by decide) ?_
    have hP9 := hP.sub (ws' := [(o, .inr (7, [.ref tp_bytes, .int (nI sz0)])), (tp_bytes, .inl (cB, 1600, .inl fb))]) [0, 1] rfl
    have hD9 := hD.sub (ws' := [(o, .inr (7, [.ref tp_bytes, .int (nI sz0)])), (tp_bytes, .inl (cB, 1600, .inl fb))]) [0, 1] (by decide) rfl
    refine W.widen (k := 0) (n := 0) (Nat.le_of_ble_eq_true rfl) (Nat.le_of_ble_eq_true rfl) ?_
    exact W.iret (v := (-1)) hx hb hr (fun tz htz hWz => ⟨⟨(-1), [(o, .inr (7, [.ref tp_bytes, .int (nI sz0)])), (tp_bytes, .inl (cB, 1600, .inl fb))], rfl, ⟨rfl, (Or.inl ⟨rfl, at_out1 c_1 hsz⟩)⟩, by rw [htz]; exact hP9, va_K.moved hWz.alike hK, hD9⟩, hS.F htz⟩) hS.2.2 dX7_at_26
  · refine lv_iload_n hx hb dX7_at_4 rfl (lv_at hl 1 rfl) ?_
    refine lv_aload_n hx hb dX7_at_5 rfl (lv_at hl 0 rfl) ?_
    refine va_get (D := D) (ci := 7) (v := .int (nI sz0)) (C := RX7) (T := TX7) (N := 2) hx hb hts (by decide +kernel) hown hK hP 0 rfl rfl 1 (by decide) (hts (.fieldLink RX7 15 "LastLetter$Tape" "size" "I") (by decide +kernel)) (fun _ h9 => h9) rfl dX7_at_6 ?_
    refine lv_icmp_ge (tgt := 25) hx hb dX7_at_9 (by decide) (fun c_2 => ?_) (fun c_2 => ?_)
    · refine lv_iconst (v := (-1)) hx hb dX7_at_25 (by decide) ?_
      have hP9 := hP.sub (ws' := [(o, .inr (7, [.ref tp_bytes, .int (nI sz0)])), (tp_bytes, .inl (cB, 1600, .inl fb))]) [0, 1] rfl
      have hD9 := hD.sub (ws' := [(o, .inr (7, [.ref tp_bytes, .int (nI sz0)])), (tp_bytes, .inl (cB, 1600, .inl fb))]) [0, 1] (by decide) rfl
      refine W.widen (k := 0) (n := 0) (Nat.le_of_ble_eq_true rfl) (Nat.le_of_ble_eq_true rfl) ?_
      exact W.iret (v := (-1)) hx hb hr (fun tz htz hWz => ⟨⟨(-1), [(o, .inr (7, [.ref tp_bytes, .int (nI sz0)])), (tp_bytes, .inl (cB, 1600, .inl fb))], rfl, ⟨rfl, (Or.inl ⟨rfl, at_out2 c_2 hsz⟩)⟩, by rw [htz]; exact hP9, va_K.moved hWz.alike hK, hD9⟩, hS.F htz⟩) hS.2.2 dX7_at_26
    · obtain ⟨q1, hq1, rfl⟩ := has_of c_1 c_2 (by omega)
      refine lv_aload_n hx hb dX7_at_12 rfl (lv_at hl 0 rfl) ?_
      refine va_get (D := D) (ci := 7) (v := .ref tp_bytes) (C := RX7) (T := TX7) (N := 2) hx hb hts (by decide +kernel) hown hK hP 0 rfl rfl 0 (by decide) (hts (.fieldLink RX7 9 "LastLetter$Tape" "bytes" "[B") (by decide +kernel)) (fun _ h9 => h9) rfl dX7_at_13 ?_
      refine lv_iload_n hx hb dX7_at_16 rfl (lv_at hl 1 rfl) ?_
      refine va_bald hx hb hK hP 1 0 rfl rfl (vp_in_nI (by omega) (by omega)) dX7_at_17 ?_
      refine xb_top (y := fb q1) (by rw [nI_clamp (by omega)]) ?_
      refine lv_sipush (v := 255) hx hb dX7_at_18 (by decide) ?_
      refine lv_iand hx hb dX7_at_21 ?_
      refine lv_goto (tgt := 26) hx hb dX7_at_22 (by decide) ?_
      have hP9 := hP.sub (ws' := [(o, .inr (7, [.ref tp_bytes, .int (nI sz0)])), (tp_bytes, .inl (cB, 1600, .inl fb))]) [0, 1] rfl
      have hD9 := hD.sub (ws' := [(o, .inr (7, [.ref tp_bytes, .int (nI sz0)])), (tp_bytes, .inl (cB, 1600, .inl fb))]) [0, 1] (by decide) rfl
      refine W.widen (k := 0) (n := 0) (Nat.le_of_ble_eq_true rfl) (Nat.le_of_ble_eq_true rfl) ?_
      exact W.iret (v := (fb q1) &&& 255) hx hb hr (fun tz htz hWz => ⟨⟨(fb q1) &&& 255, [(o, .inr (7, [.ref tp_bytes, .int (nI sz0)])), (tp_bytes, .inl (cB, 1600, .inl fb))], rfl, ⟨rfl, (Or.inr ⟨q1, hq1, rfl, rfl⟩)⟩, by rw [htz]; exact hP9, va_K.moved hWz.alike hK, hD9⟩, hS.F htz⟩) hS.2.2 dX7_at_26
