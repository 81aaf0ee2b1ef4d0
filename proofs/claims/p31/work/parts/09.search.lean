theorem dX5_begin_0 : decode cX5_begin 0 = .ok (.aload_n 0, 1) := by decide +kernel
theorem dX5_begin_1 : decode cX5_begin 1 = .ok (.getfield 9, 3) := by decide +kernel
theorem dX5_begin_4 : decode cX5_begin 4 = .ok (.bipush (-2), 2) := by decide +kernel
theorem dX5_begin_6 : decode cX5_begin 6 = .ok (.invokestatic 45, 3) := by decide +kernel
theorem dX5_begin_9 : decode cX5_begin 9 = .ok (.aload_n 0, 1) := by decide +kernel
theorem dX5_begin_10 : decode cX5_begin 10 = .ok (.iconst 0, 1) := by decide +kernel
theorem dX5_begin_11 : decode cX5_begin 11 = .ok (.putfield 25, 3) := by decide +kernel
theorem dX5_begin_14 : decode cX5_begin 14 = .ok (.return_, 1) := by decide +kernel
set_option maxRecDepth 20000 in
theorem ggX5_begin_J7_fill_53178 : GoodIn wsX5_begin wsJ7_fill_53178 := goodIn_r _ [6] (by decide +kernel) (by decide +kernel)
set_option maxRecDepth 20000 in
theorem gX5_begin_J7_fill_53178 : GoodIn wsX5_begin (va_wsS RX5 45 yJ7_fill_53178 wsJ7_fill_53178) := goodIn_app (goodIn_of _ (by decide +kernel)) ggX5_begin_J7_fill_53178
set_option maxHeartbeats 4000000 in
set_option maxRecDepth 100000 in
theorem c_X5_begin (l : Launch) (D : va_G) (cB cI cJ cS cZ cO : ClassId) (sz : Nat) (o : Nat) (se_ahead : Nat) (se_queue : Nat) (se_queued : Int32) (fa : Nat → Int32) : Met l yX5_begin wsX5_begin ({ frames := 1, cells := 0, slots := 0, locals := 23 }) (xPre D (tyL cB cI cJ cS cZ cO) [(o, .inr (5, [.ref se_ahead, .ref se_queue, .int se_queued])), (se_ahead, .inl (cI, 1536, .inl fa))] sz [.ref o]) (xQv D (tyL cB cI cJ cS cZ cO) (va_A [(o, .inr (5, [.ref se_ahead, .ref se_queue, .int se_queued])), (se_ahead, .inl (cI, 1536, .inl fa))] sz) (fun u : va_W => ∃ ga : Nat → Int32, u = [(o, .inr (5, [.ref se_ahead, .ref se_queue, .int 0])), (se_ahead, .inl (cI, 1536, .inl ga))] ∧ rgS ga 1536 1536)) 0 0 (va_A [(o, .inr (5, [.ref se_ahead, .ref se_queue, .int se_queued])), (se_ahead, .inl (cI, 1536, .inl fa))] sz) := by
  refine Met.ofW (cc := cX5_begin) (maxL := 1) (ret := none) (by decide) rfl ?_
  intro p e s m args below meth c s₁ B hml hv
  obtain ⟨rfl, hsz, hP, hK, hD0, hN⟩ := hv
  have hx := B.exec
  have hb := B.bytes
  have hr := B.returns
  have hts := atoms_spec (ws := wsX5_begin) B.pre
  have hown : s.vm.findClass RX5 = some m.cls := findClass_of_methodNamed B.named
  have hlocks := B.notSynchronized
  subst hsz
  have hD := hD0.self (sz := s.heap.size)
  generalize hAe : va_A [(o, .inr (5, [.ref se_ahead, .ref se_queue, .int se_queued])), (se_ahead, .inl (cI, 1536, .inl fa))] s.heap.size = A at hD ⊢
  have hA : ∀ q : Nat, s.heap.size ≤ q → A q := fun q h => by rw [← hAe]; exact Or.inr h
  have hS : va_S A s.heap s.heap [] := va_S.rf
  have hP : va_P D vwCl [(o, .inr (5, [.ref se_ahead, .ref se_queue, .int se_queued])), (se_ahead, .inl (cI, 1536, .inl fa))] s.heap := hP
  have hl := lv_entry ([.ref o]) (n := 1) (Nat.le_of_ble_eq_true rfl)
  rw [lg_entry_eq]
  generalize (lg_sl ([.ref o]) ++ List.replicate (1 - (lg_sl ([.ref o])).length) Slot.unset).toArray = ls at hl ⊢
  have hl : lv_has ls 1 [(0, .ref o)] := hl
  refine lv_aload_n hx hb dX5_begin_0 rfl (lv_at hl 0 rfl) ?_
  refine va_get (D := D) (ci := 5) (v := .ref se_ahead) (C := RX5) (T := TX5) (N := 3) hx hb hts (by decide +kernel) hown hK hP 0 rfl rfl 0 (by decide) (hts (.fieldLink RX5 9 "LastLetter$Search" "ahead" "[I") (by decide +kernel)) (fun _ h9 => h9) rfl dX5_begin_1 ?_
  refine lv_bipush (v := (-2)) hx hb dX5_begin_4 (by decide) ?_
  refine xCv (wr := [(o, .inr (5, [.ref se_ahead, .ref se_queue, .int se_queued]))]) (win := [(se_ahead, .inl (cI, 1536, .inl fa))]) hP hD hS hA [1] [0] rfl rfl (by decide) (by decide) (va_runS (As := [.ref se_ahead, .int (-2)]) (rest := []) ⟨hx, hb, hml, hown, hts⟩ (c_J7_fill_53178 l D cB cI cJ cS cZ cO s.heap.size se_ahead (-2) 1536 fa (by first | assumption | omega | decide)) (va_cwS 2 hts gX5_begin_J7_fill_53178 rfl rfl rfl (by decide +kernel) ⟨Nat.le_of_ble_eq_true rfl, Nat.le_of_ble_eq_true rfl⟩) (xPreS (win := [(se_ahead, .inl (cI, 1536, .inl fa))]) hN hK hP hD [1] (by decide) rfl) rfl rfl hl.1 rfl (lv_room (Nat.le_of_ble_eq_true rfl)) dX5_begin_6 ⟨Nat.le_of_ble_eq_true rfl, Nat.le_of_ble_eq_true rfl⟩) (fun w0 H locs hw hP hD hS => ?_)
  obtain ⟨g_1, rfl, hf_2⟩ := hw
  have hP : va_P D vwCl [(o, .inr (5, [.ref se_ahead, .ref se_queue, .int se_queued])), (se_ahead, .inl (cI, 1536, .inl g_1))] H := hP
  have hD : va_D A [(o, .inr (5, [.ref se_ahead, .ref se_queue, .int se_queued])), (se_ahead, .inl (cI, 1536, .inl g_1))] := hD
  refine lv_aload_n hx hb dX5_begin_9 rfl (lv_at hl 0 rfl) ?_
  refine lv_iconst (v := 0) hx hb dX5_begin_10 (by decide) ?_
  refine va_put (D := D) (ci := 5) (v := .int 0) (ty := .int) (C := RX5) (T := TX5) (N := 3) hx hb hts (by decide +kernel) tyX5 tyX5_ok nmX5 hown hK hP hD hS 0 rfl rfl 2 (by decide) (hts (.fieldLink RX5 25 "LastLetter$Search" "queued" "I") (by decide +kernel)) (fun _ h9 => h9) rfl (by decide +kernel) rfl rfl (Nat.le_of_ble_eq_true rfl) dX5_begin_11 (fun H locs hP hD hS => ?_)
  have hP : va_P D vwCl [(o, .inr (5, [.ref se_ahead, .ref se_queue, .int 0])), (se_ahead, .inl (cI, 1536, .inl g_1))] H := hP
  have hD : va_D A [(o, .inr (5, [.ref se_ahead, .ref se_queue, .int 0])), (se_ahead, .inl (cI, 1536, .inl g_1))] := hD
  have hP9 := hP.sub (ws' := [(o, .inr (5, [.ref se_ahead, .ref se_queue, .int 0])), (se_ahead, .inl (cI, 1536, .inl g_1))]) [0, 1] rfl
  have hD9 := hD.sub (ws' := [(o, .inr (5, [.ref se_ahead, .ref se_queue, .int 0])), (se_ahead, .inl (cI, 1536, .inl g_1))]) [0, 1] (by decide) rfl
  refine W.widen (k := 0) (n := 0) (Nat.le_of_ble_eq_true rfl) (Nat.le_of_ble_eq_true rfl) ?_
  exact W.vret hx hb hr (fun tz htz hWz => ⟨⟨[(o, .inr (5, [.ref se_ahead, .ref se_queue, .int 0])), (se_ahead, .inl (cI, 1536, .inl g_1))], rfl, ⟨g_1, rfl, (fun j hj => Or.inl (by rw [hf_2 j hj]; decide))⟩, by rw [htz]; exact hP9, va_K.moved hWz.alike hK, hD9⟩, hS.F htz⟩) hS.2.2 dX5_begin_14
