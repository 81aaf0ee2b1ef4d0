theorem dX0_endless_0 : decode cX0_endless 0 = .ok (.iconst 0, 1) := by decide +kernel
theorem dX0_endless_1 : decode cX0_endless 1 = .ok (.istore_n 3, 1) := by decide +kernel
theorem dX0_endless_2 : decode cX0_endless 2 = .ok (.iconst 0, 1) := by decide +kernel
theorem dX0_endless_3 : decode cX0_endless 3 = .ok (.istore 4, 2) := by decide +kernel
theorem dX0_endless_5 : decode cX0_endless 5 = .ok (.iconst 0, 1) := by decide +kernel
theorem dX0_endless_6 : decode cX0_endless 6 = .ok (.istore 5, 2) := by decide +kernel
theorem dX0_endless_8 : decode cX0_endless 8 = .ok (.iload 5, 2) := by decide +kernel
theorem dX0_endless_10 : decode cX0_endless 10 = .ok (.aload_n 1, 1) := by decide +kernel
theorem dX0_endless_11 : decode cX0_endless 11 = .ok (.getfield 50, 3) := by decide +kernel
theorem dX0_endless_14 : decode cX0_endless 14 = .ok (.if_icmp .ge 73, 3) := by decide +kernel
theorem dX0_endless_17 : decode cX0_endless 17 = .ok (.iconst 0, 1) := by decide +kernel
theorem dX0_endless_18 : decode cX0_endless 18 = .ok (.istore 6, 2) := by decide +kernel
theorem dX0_endless_20 : decode cX0_endless 20 = .ok (.iload 6, 2) := by decide +kernel
theorem dX0_endless_22 : decode cX0_endless 22 = .ok (.aload_n 1, 1) := by decide +kernel
theorem dX0_endless_23 : decode cX0_endless 23 = .ok (.getfield 50, 3) := by decide +kernel
theorem dX0_endless_26 : decode cX0_endless 26 = .ok (.if_icmp .ge 55, 3) := by decide +kernel
theorem dX0_endless_29 : decode cX0_endless 29 = .ok (.aload_n 1, 1) := by decide +kernel
theorem dX0_endless_30 : decode cX0_endless 30 = .ok (.getfield 47, 3) := by decide +kernel
theorem dX0_endless_33 : decode cX0_endless 33 = .ok (.iload 6, 2) := by decide +kernel
theorem dX0_endless_35 : decode cX0_endless 35 = .ok (.iaload, 1) := by decide +kernel
theorem dX0_endless_36 : decode cX0_endless 36 = .ok (.iload 4, 2) := by decide +kernel
theorem dX0_endless_38 : decode cX0_endless 38 = .ok (.iand, 1) := by decide +kernel
theorem dX0_endless_39 : decode cX0_endless 39 = .ok (.ifCond .eq 13, 3) := by decide +kernel
theorem dX0_endless_42 : decode cX0_endless 42 = .ok (.iload_n 3, 1) := by decide +kernel
theorem dX0_endless_43 : decode cX0_endless 43 = .ok (.iconst 1, 1) := by decide +kernel
theorem dX0_endless_44 : decode cX0_endless 44 = .ok (.iload 6, 2) := by decide +kernel
theorem dX0_endless_46 : decode cX0_endless 46 = .ok (.ishl, 1) := by decide +kernel
theorem dX0_endless_47 : decode cX0_endless 47 = .ok (.ior, 1) := by decide +kernel
theorem dX0_endless_48 : decode cX0_endless 48 = .ok (.istore_n 3, 1) := by decide +kernel
theorem dX0_endless_49 : decode cX0_endless 49 = .ok (.goto 26, 3) := by decide +kernel
theorem dX0_endless_52 : decode cX0_endless 52 = .ok (.aload_n 1, 1) := by decide +kernel
theorem dX0_endless_53 : decode cX0_endless 53 = .ok (.getfield 47, 3) := by decide +kernel
theorem dX0_endless_56 : decode cX0_endless 56 = .ok (.iload 6, 2) := by decide +kernel
theorem dX0_endless_58 : decode cX0_endless 58 = .ok (.iaload, 1) := by decide +kernel
theorem dX0_endless_59 : decode cX0_endless 59 = .ok (.iload_n 3, 1) := by decide +kernel
theorem dX0_endless_60 : decode cX0_endless 60 = .ok (.iconst (-1), 1) := by decide +kernel
theorem dX0_endless_61 : decode cX0_endless 61 = .ok (.ixor, 1) := by decide +kernel
theorem dX0_endless_62 : decode cX0_endless 62 = .ok (.iand, 1) := by decide +kernel
theorem dX0_endless_63 : decode cX0_endless 63 = .ok (.ifCond .ne 12, 3) := by decide +kernel
theorem dX0_endless_66 : decode cX0_endless 66 = .ok (.iload 4, 2) := by decide +kernel
theorem dX0_endless_68 : decode cX0_endless 68 = .ok (.iconst 1, 1) := by decide +kernel
theorem dX0_endless_69 : decode cX0_endless 69 = .ok (.iload 6, 2) := by decide +kernel
theorem dX0_endless_71 : decode cX0_endless 71 = .ok (.ishl, 1) := by decide +kernel
theorem dX0_endless_72 : decode cX0_endless 72 = .ok (.ior, 1) := by decide +kernel
theorem dX0_endless_73 : decode cX0_endless 73 = .ok (.istore 4, 2) := by decide +kernel
theorem dX0_endless_75 : decode cX0_endless 75 = .ok (.iinc 6 1, 3) := by decide +kernel
theorem dX0_endless_78 : decode cX0_endless 78 = .ok (.goto (-58), 3) := by decide +kernel
theorem dX0_endless_81 : decode cX0_endless 81 = .ok (.iinc 5 1, 3) := by decide +kernel
theorem dX0_endless_84 : decode cX0_endless 84 = .ok (.goto (-76), 3) := by decide +kernel
theorem dX0_endless_87 : decode cX0_endless 87 = .ok (.iload_n 3, 1) := by decide +kernel
theorem dX0_endless_88 : decode cX0_endless 88 = .ok (.iload_n 2, 1) := by decide +kernel
theorem dX0_endless_89 : decode cX0_endless 89 = .ok (.invokestatic 43, 3) := by decide +kernel
theorem dX0_endless_92 : decode cX0_endless 92 = .ok (.ifCond .eq 5, 3) := by decide +kernel
theorem dX0_endless_95 : decode cX0_endless 95 = .ok (.iconst 1, 1) := by decide +kernel
theorem dX0_endless_96 : decode cX0_endless 96 = .ok (.ireturn, 1) := by decide +kernel
theorem dX0_endless_97 : decode cX0_endless 97 = .ok (.iload 4, 2) := by decide +kernel
theorem dX0_endless_99 : decode cX0_endless 99 = .ok (.iload_n 2, 1) := by decide +kernel
theorem dX0_endless_100 : decode cX0_endless 100 = .ok (.invokestatic 43, 3) := by decide +kernel
theorem dX0_endless_103 : decode cX0_endless 103 = .ok (.ifCond .eq 7, 3) := by decide +kernel
theorem dX0_endless_106 : decode cX0_endless 106 = .ok (.iconst 0, 1) := by decide +kernel
theorem dX0_endless_107 : decode cX0_endless 107 = .ok (.goto 4, 3) := by decide +kernel
theorem dX0_endless_110 : decode cX0_endless 110 = .ok (.iconst 2, 1) := by decide +kernel
theorem dX0_endless_111 : decode cX0_endless 111 = .ok (.ireturn, 1) := by decide +kernel
theorem dX0_isLostBehind_0 : decode cX0_isLostBehind 0 = .ok (.aload_n 0, 1) := by decide +kernel
theorem dX0_isLostBehind_1 : decode cX0_isLostBehind 1 = .ok (.getfield 9, 3) := by decide +kernel
theorem dX0_isLostBehind_4 : decode cX0_isLostBehind 4 = .ok (.iload_n 1, 1) := by decide +kernel
theorem dX0_isLostBehind_5 : decode cX0_isLostBehind 5 = .ok (.iconst 1, 1) := by decide +kernel
theorem dX0_isLostBehind_6 : decode cX0_isLostBehind 6 = .ok (.iload_n 2, 1) := by decide +kernel
theorem dX0_isLostBehind_7 : decode cX0_isLostBehind 7 = .ok (.ishl, 1) := by decide +kernel
theorem dX0_isLostBehind_8 : decode cX0_isLostBehind 8 = .ok (.ixor, 1) := by decide +kernel
theorem dX0_isLostBehind_9 : decode cX0_isLostBehind 9 = .ok (.iaload, 1) := by decide +kernel
theorem dX0_isLostBehind_10 : decode cX0_isLostBehind 10 = .ok (.iload_n 2, 1) := by decide +kernel
theorem dX0_isLostBehind_11 : decode cX0_isLostBehind 11 = .ok (.invokestatic 43, 3) := by decide +kernel
theorem dX0_isLostBehind_14 : decode cX0_isLostBehind 14 = .ok (.ifCond .ne 7, 3) := by decide +kernel
theorem dX0_isLostBehind_17 : decode cX0_isLostBehind 17 = .ok (.iconst 1, 1) := by decide +kernel
theorem dX0_isLostBehind_18 : decode cX0_isLostBehind 18 = .ok (.goto 4, 3) := by decide +kernel
theorem dX0_isLostBehind_21 : decode cX0_isLostBehind 21 = .ok (.iconst 0, 1) := by decide +kernel
theorem dX0_isLostBehind_22 : decode cX0_isLostBehind 22 = .ok (.ireturn, 1) := by decide +kernel
theorem dX0_learnWon_0 : decode cX0_learnWon 0 = .ok (.iconst 1, 1) := by decide +kernel
theorem dX0_learnWon_1 : decode cX0_learnWon 1 = .ok (.aload_n 1, 1) := by decide +kernel
theorem dX0_learnWon_2 : decode cX0_learnWon 2 = .ok (.getfield 50, 3) := by decide +kernel
theorem dX0_learnWon_5 : decode cX0_learnWon 5 = .ok (.ishl, 1) := by decide +kernel
theorem dX0_learnWon_6 : decode cX0_learnWon 6 = .ok (.istore_n 2, 1) := by decide +kernel
theorem dX0_learnWon_7 : decode cX0_learnWon 7 = .ok (.aload_n 0, 1) := by decide +kernel
theorem dX0_learnWon_8 : decode cX0_learnWon 8 = .ok (.getfield 23, 3) := by decide +kernel
theorem dX0_learnWon_11 : decode cX0_learnWon 11 = .ok (.ifCond .eq 4, 3) := by decide +kernel
theorem dX0_learnWon_14 : decode cX0_learnWon 14 = .ok (.return_, 1) := by decide +kernel
theorem dX0_learnWon_15 : decode cX0_learnWon 15 = .ok (.aload_n 0, 1) := by decide +kernel
theorem dX0_learnWon_16 : decode cX0_learnWon 16 = .ok (.getfield 9, 3) := by decide +kernel
theorem dX0_learnWon_19 : decode cX0_learnWon 19 = .ok (.arraylength, 1) := by decide +kernel
theorem dX0_learnWon_20 : decode cX0_learnWon 20 = .ok (.iload_n 2, 1) := by decide +kernel
theorem dX0_learnWon_21 : decode cX0_learnWon 21 = .ok (.if_icmp .ge 10, 3) := by decide +kernel
theorem dX0_learnWon_24 : decode cX0_learnWon 24 = .ok (.aload_n 0, 1) := by decide +kernel
theorem dX0_learnWon_25 : decode cX0_learnWon 25 = .ok (.iload_n 2, 1) := by decide +kernel
theorem dX0_learnWon_26 : decode cX0_learnWon 26 = .ok (.newarray .int, 2) := by decide +kernel
theorem dX0_learnWon_28 : decode cX0_learnWon 28 = .ok (.putfield 9, 3) := by decide +kernel
theorem dX0_learnWon_31 : decode cX0_learnWon 31 = .ok (.iconst 0, 1) := by decide +kernel
theorem dX0_learnWon_32 : decode cX0_learnWon 32 = .ok (.istore_n 3, 1) := by decide +kernel
theorem dX0_learnWon_33 : decode cX0_learnWon 33 = .ok (.iload_n 3, 1) := by decide +kernel
theorem dX0_learnWon_34 : decode cX0_learnWon 34 = .ok (.iload_n 2, 1) := by decide +kernel
theorem dX0_learnWon_35 : decode cX0_learnWon 35 = .ok (.if_icmp .ge 69, 3) := by decide +kernel
theorem dX0_learnWon_38 : decode cX0_learnWon 38 = .ok (.iconst 0, 1) := by decide +kernel
theorem dX0_learnWon_39 : decode cX0_learnWon 39 = .ok (.istore 4, 2) := by decide +kernel
theorem dX0_learnWon_41 : decode cX0_learnWon 41 = .ok (.iconst 0, 1) := by decide +kernel
theorem dX0_learnWon_42 : decode cX0_learnWon 42 = .ok (.istore 5, 2) := by decide +kernel
theorem dX0_learnWon_44 : decode cX0_learnWon 44 = .ok (.iload 5, 2) := by decide +kernel
theorem dX0_learnWon_46 : decode cX0_learnWon 46 = .ok (.aload_n 1, 1) := by decide +kernel
theorem dX0_learnWon_47 : decode cX0_learnWon 47 = .ok (.getfield 50, 3) := by decide +kernel
theorem dX0_learnWon_50 : decode cX0_learnWon 50 = .ok (.if_icmp .ge 40, 3) := by decide +kernel
theorem dX0_learnWon_53 : decode cX0_learnWon 53 = .ok (.iload_n 3, 1) := by decide +kernel
theorem dX0_learnWon_54 : decode cX0_learnWon 54 = .ok (.iload 5, 2) := by decide +kernel
theorem dX0_learnWon_56 : decode cX0_learnWon 56 = .ok (.invokestatic 43, 3) := by decide +kernel
theorem dX0_learnWon_59 : decode cX0_learnWon 59 = .ok (.ifCond .eq 25, 3) := by decide +kernel
theorem dX0_learnWon_62 : decode cX0_learnWon 62 = .ok (.aload_n 0, 1) := by decide +kernel
theorem dX0_learnWon_63 : decode cX0_learnWon 63 = .ok (.iload_n 3, 1) := by decide +kernel
theorem dX0_learnWon_64 : decode cX0_learnWon 64 = .ok (.iload 5, 2) := by decide +kernel
theorem dX0_learnWon_66 : decode cX0_learnWon 66 = .ok (.invokevirtual 54, 3) := by decide +kernel
theorem dX0_learnWon_69 : decode cX0_learnWon 69 = .ok (.ifCond .eq 15, 3) := by decide +kernel
theorem dX0_learnWon_72 : decode cX0_learnWon 72 = .ok (.iload 4, 2) := by decide +kernel
theorem dX0_learnWon_74 : decode cX0_learnWon 74 = .ok (.aload_n 1, 1) := by decide +kernel
theorem dX0_learnWon_75 : decode cX0_learnWon 75 = .ok (.getfield 67, 3) := by decide +kernel
theorem dX0_learnWon_78 : decode cX0_learnWon 78 = .ok (.iload 5, 2) := by decide +kernel
theorem dX0_learnWon_80 : decode cX0_learnWon 80 = .ok (.iaload, 1) := by decide +kernel
theorem dX0_learnWon_81 : decode cX0_learnWon 81 = .ok (.ior, 1) := by decide +kernel
theorem dX0_learnWon_82 : decode cX0_learnWon 82 = .ok (.istore 4, 2) := by decide +kernel
theorem dX0_learnWon_84 : decode cX0_learnWon 84 = .ok (.iinc 5 1, 3) := by decide +kernel
theorem dX0_learnWon_87 : decode cX0_learnWon 87 = .ok (.goto (-43), 3) := by decide +kernel
theorem dX0_learnWon_90 : decode cX0_learnWon 90 = .ok (.aload_n 0, 1) := by decide +kernel
theorem dX0_learnWon_91 : decode cX0_learnWon 91 = .ok (.getfield 9, 3) := by decide +kernel
theorem dX0_learnWon_94 : decode cX0_learnWon 94 = .ok (.iload_n 3, 1) := by decide +kernel
theorem dX0_learnWon_95 : decode cX0_learnWon 95 = .ok (.iload 4, 2) := by decide +kernel
theorem dX0_learnWon_97 : decode cX0_learnWon 97 = .ok (.iastore, 1) := by decide +kernel
theorem dX0_learnWon_98 : decode cX0_learnWon 98 = .ok (.iinc 3 1, 3) := by decide +kernel
theorem dX0_learnWon_101 : decode cX0_learnWon 101 = .ok (.goto (-68), 3) := by decide +kernel
theorem dX0_learnWon_104 : decode cX0_learnWon 104 = .ok (.aload_n 0, 1) := by decide +kernel
theorem dX0_learnWon_105 : decode cX0_learnWon 105 = .ok (.iconst 1, 1) := by decide +kernel
theorem dX0_learnWon_106 : decode cX0_learnWon 106 = .ok (.putfield 23, 3) := by decide +kernel
theorem dX0_learnWon_109 : decode cX0_learnWon 109 = .ok (.return_, 1) := by decide +kernel
set_option maxRecDepth 20000 in
theorem ggX0_endless_X10_isIn : GoodIn wsX0_endless wsX10_isIn := goodIn_r _ [3] (by decide +kernel) (by decide +kernel)
set_option maxRecDepth 20000 in
theorem gX0_endless_X10_isIn_n43 : GoodIn wsX0_endless (wsX10_isIn) := ggX0_endless_X10_isIn
set_option maxRecDepth 20000 in
theorem ggX0_isLostBehind_X10_isIn : GoodIn wsX0_isLostBehind wsX10_isIn := goodIn_r _ [4] (by decide +kernel) (by decide +kernel)
set_option maxRecDepth 20000 in
theorem gX0_isLostBehind_X10_isIn_n43 : GoodIn wsX0_isLostBehind (wsX10_isIn) := ggX0_isLostBehind_X10_isIn
set_option maxRecDepth 20000 in
theorem ggX0_learnWon_X0_isLostBehind : GoodIn wsX0_learnWon wsX0_isLostBehind := goodIn_r _ [11, 2, 4, 5, 6, 28, 29, 30, 31, 32, 33] (by decide +kernel) (by decide +kernel)
set_option maxRecDepth 20000 in
theorem gX0_learnWon_X0_isLostBehind : GoodIn wsX0_learnWon (wsV RX0 54 RX0 yX0_isLostBehind wsX0_isLostBehind) := goodIn_app (goodIn_of _ (by decide +kernel)) ggX0_learnWon_X0_isLostBehind
set_option maxRecDepth 20000 in
theorem ggX0_learnWon_X10_isIn : GoodIn wsX0_learnWon wsX10_isIn := goodIn_r _ [6] (by decide +kernel) (by decide +kernel)
set_option maxRecDepth 20000 in
theorem gX0_learnWon_X10_isIn_n43 : GoodIn wsX0_learnWon (wsX10_isIn) := ggX0_learnWon_X10_isIn
set_option maxHeartbeats 4000000 in
set_option maxRecDepth 100000 in
theorem c_X0_isLostBehind (l : Launch) (D : va_G) (cB cI cJ cS cZ cO : ClassId) (sz : Nat) (o : Nat) (rs : Nat) (k : Nat) (gm_won : Nat) (gm_depths : Nat) (gm_gains : Nat) (gm_isWonKnown : Int32) (gm_isDepthKnown : Int32) (gm_isGainKnown : Int32) (ln : Nat) (fwn : Nat → Int32) (sN : Nat) (w : Nat) (hs : sN = 2 ^ w) (hw4 : w ≤ 14) (hs1 : 1 ≤ sN) (hs2 : sN ≤ 16384) (hln : ln ≤ 16384) (hsl : sN ≤ ln) (hrs : rs < sN) (hk : k < w) : Met l yX0_isLostBehind wsX0_isLostBehind ({ frames := 1, cells := 0, slots := 0, locals := 21 }) (xPre D (tyL cB cI cJ cS cZ cO) [(o, .inr (0, [.ref gm_won, .ref gm_depths, .ref gm_gains, .int gm_isWonKnown, .int gm_isDepthKnown, .int gm_isGainKnown])), (gm_won, .inl (cI, ln, .inl fwn))] sz [.ref o, .int (nI rs), .int (nI k)]) (xQi D (tyL cB cI cJ cS cZ cO) (va_A [(o, .inr (0, [.ref gm_won, .ref gm_depths, .ref gm_gains, .int gm_isWonKnown, .int gm_isDepthKnown, .int gm_isGainKnown])), (gm_won, .inl (cI, ln, .inl fwn))] sz) (fun (r : Int32) (u : va_W) => u = [(o, .inr (0, [.ref gm_won, .ref gm_depths, .ref gm_gains, .int gm_isWonKnown, .int gm_isDepthKnown, .int gm_isGainKnown])), (gm_won, .inl (cI, ln, .inl fwn))] ∧ (r = 0 ∨ r = 1))) 0 0 (va_A [(o, .inr (0, [.ref gm_won, .ref gm_depths, .ref gm_gains, .int gm_isWonKnown, .int gm_isDepthKnown, .int gm_isGainKnown])), (gm_won, .inl (cI, ln, .inl fwn))] sz) := by
  refine Met.ofW (cc := cX0_isLostBehind) (maxL := 3) (ret := (some .boolean)) (by decide) rfl ?_
  intro p e s m args below meth c s₁ B hml hv
  obtain ⟨rfl, hsz, hP, hK, hD0, hN⟩ := hv
  have hx := B.exec
  have hb := B.bytes
  have hr := B.returns
  have hts := atoms_spec (ws := wsX0_isLostBehind) B.pre
  have hown : s.vm.findClass RX0 = some m.cls := findClass_of_methodNamed B.named
  have hlocks := B.notSynchronized
  subst hsz
  have hD := hD0.self (sz := s.heap.size)
  generalize hAe : va_A [(o, .inr (0, [.ref gm_won, .ref gm_depths, .ref gm_gains, .int gm_isWonKnown, .int gm_isDepthKnown, .int gm_isGainKnown])), (gm_won, .inl (cI, ln, .inl fwn))] s.heap.size = A at hD ⊢
  have hA : ∀ q : Nat, s.heap.size ≤ q → A q := fun q h => by rw [← hAe]; exact Or.inr h
  have hS : va_S A s.heap s.heap [] := va_S.rf
  have hP : va_P D vwCl [(o, .inr (0, [.ref gm_won, .ref gm_depths, .ref gm_gains, .int gm_isWonKnown, .int gm_isDepthKnown, .int gm_isGainKnown])), (gm_won, .inl (cI, ln, .inl fwn))] s.heap := hP
  have hl := lv_entry ([.ref o, .int (nI rs), .int (nI k)]) (n := 3) (Nat.le_of_ble_eq_true rfl)
  rw [lg_entry_eq]
  generalize (lg_sl ([.ref o, .int (nI rs), .int (nI k)]) ++ List.replicate (3 - (lg_sl ([.ref o, .int (nI rs), .int (nI k)])).length) Slot.unset).toArray = ls at hl ⊢
  have hl : lv_has ls 3 [(0, .ref o), (1, .int (nI rs)), (2, .int (nI k))] := hl
  refine lv_aload_n hx hb dX0_isLostBehind_0 rfl (lv_at hl 0 rfl) ?_
  refine va_get (D := D) (ci := 0) (v := .ref gm_won) (C := RX0) (T := TX0) (N := 6) hx hb hts (by decide +kernel) hown hK hP 0 rfl rfl 0 (by decide) (hts (.fieldLink RX0 9 "LastLetter$Games" "won" "[I") (by decide +kernel)) (fun _ h9 => h9) rfl dX0_isLostBehind_1 ?_
  refine lv_iload_n hx hb dX0_isLostBehind_4 rfl (lv_at hl 1 rfl) ?_
  refine lv_iconst (v := 1) hx hb dX0_isLostBehind_5 (by decide) ?_
  refine lv_iload_n hx hb dX0_isLostBehind_6 rfl (lv_at hl 2 rfl) ?_
  refine lv_ishl hx hb dX0_isLostBehind_7 ?_
  refine xb_top (y := nI (1 * 2 ^ k)) (nb_shl (a := 1) (i := k) (by omega)) ?_
  obtain ⟨q_1, hq_1, eq_1⟩ := set_xor (a := rs) (i := k) hs (by omega) (by omega)
  refine lv_ixor hx hb dX0_isLostBehind_8 ?_
  refine xb_top (y := nI q_1) ((nb_xor rs (1 * 2 ^ k)).trans eq_1) ?_
  refine va_iald hx hb hK hP 1 1 rfl rfl (vp_in_nI (by omega) (by omega)) dX0_isLostBehind_9 ?_
  refine xb_top (y := fwn q_1) (by rw [nI_clamp (by omega)]) ?_
  refine lv_iload_n hx hb dX0_isLostBehind_10 rfl (lv_at hl 2 rfl) ?_
  refine xCi (wr := [(o, .inr (0, [.ref gm_won, .ref gm_depths, .ref gm_gains, .int gm_isWonKnown, .int gm_isDepthKnown, .int gm_isGainKnown])), (gm_won, .inl (cI, ln, .inl fwn))]) (win := []) hP hD hS hA [] [0, 1] rfl rfl (by decide) (by decide) (va_runSN (As := [.int (fwn q_1), .int (nI k)]) (rest := []) ⟨hx, hb, hml, hown, hts⟩ (c_X10_isIn l D cB cI cJ cS cZ cO s.heap.size (fwn q_1) (nI k) ) ⟨va_cnB 2 hts gX0_isLostBehind_X10_isIn_n43 rfl rfl rfl (hN.2.1 (RX0, 43, yX10_isIn, RX10) (by decide +kernel)) (hts (.initialized RX10) (by decide +kernel)) (by decide +kernel) ⟨Nat.le_of_ble_eq_true rfl, Nat.le_of_ble_eq_true rfl⟩, hts (.static yX10_isIn) (by decide +kernel), trivial⟩ (xPreS (win := []) hN hK hP hD [] (by decide) rfl) rfl rfl hl.1 rfl (lv_room (Nat.le_of_ble_eq_true rfl)) dX0_isLostBehind_11 ⟨Nat.le_of_ble_eq_true rfl, Nat.le_of_ble_eq_true rfl⟩) (fun r_2 w0 H locs hw hP hD hS => ?_)
  obtain ⟨rfl, hf_3⟩ := hw
  have hP : va_P D vwCl [(o, .inr (0, [.ref gm_won, .ref gm_depths, .ref gm_gains, .int gm_isWonKnown, .int gm_isDepthKnown, .int gm_isGainKnown])), (gm_won, .inl (cI, ln, .inl fwn))] H := hP
  have hD : va_D A [(o, .inr (0, [.ref gm_won, .ref gm_depths, .ref gm_gains, .int gm_isWonKnown, .int gm_isDepthKnown, .int gm_isGainKnown])), (gm_won, .inl (cI, ln, .inl fwn))] := hD
  refine lv_if_ne (tgt := 21) hx hb dX0_isLostBehind_14 (by decide) (fun c_4 => ?_) (fun c_4 => ?_)
  · refine lv_iconst (v := 0) hx hb dX0_isLostBehind_21 (by decide) ?_
    have hP9 := hP.sub (ws' := [(o, .inr (0, [.ref gm_won, .ref gm_depths, .ref gm_gains, .int gm_isWonKnown, .int gm_isDepthKnown, .int gm_isGainKnown])), (gm_won, .inl (cI, ln, .inl fwn))]) [0, 1] rfl
    have hD9 := hD.sub (ws' := [(o, .inr (0, [.ref gm_won, .ref gm_depths, .ref gm_gains, .int gm_isWonKnown, .int gm_isDepthKnown, .int gm_isGainKnown])), (gm_won, .inl (cI, ln, .inl fwn))]) [0, 1] (by decide) rfl
    refine W.widen (k := 0) (n := 0) (Nat.le_of_ble_eq_true rfl) (Nat.le_of_ble_eq_true rfl) ?_
    exact W.zret (v := 0) hx hb hr (by decide) (fun tz htz hWz => ⟨⟨0, [(o, .inr (0, [.ref gm_won, .ref gm_depths, .ref gm_gains, .int gm_isWonKnown, .int gm_isDepthKnown, .int gm_isGainKnown])), (gm_won, .inl (cI, ln, .inl fwn))], rfl, ⟨rfl, (Or.inl rfl)⟩, by rw [htz]; exact hP9, va_K.moved hWz.alike hK, hD9⟩, hS.F htz⟩) hS.2.2 dX0_isLostBehind_22
  · refine lv_iconst (v := 1) hx hb dX0_isLostBehind_17 (by decide) ?_
    refine lv_goto (tgt := 22) hx hb dX0_isLostBehind_18 (by decide) ?_
    have hP9 := hP.sub (ws' := [(o, .inr (0, [.ref gm_won, .ref gm_depths, .ref gm_gains, .int gm_isWonKnown, .int gm_isDepthKnown, .int gm_isGainKnown])), (gm_won, .inl (cI, ln, .inl fwn))]) [0, 1] rfl
    have hD9 := hD.sub (ws' := [(o, .inr (0, [.ref gm_won, .ref gm_depths, .ref gm_gains, .int gm_isWonKnown, .int gm_isDepthKnown, .int gm_isGainKnown])), (gm_won, .inl (cI, ln, .inl fwn))]) [0, 1] (by decide) rfl
    refine W.widen (k := 0) (n := 0) (Nat.le_of_ble_eq_true rfl) (Nat.le_of_ble_eq_true rfl) ?_
    exact W.zret (v := 1) hx hb hr (by decide) (fun tz htz hWz => ⟨⟨1, [(o, .inr (0, [.ref gm_won, .ref gm_depths, .ref gm_gains, .int gm_isWonKnown, .int gm_isDepthKnown, .int gm_isGainKnown])), (gm_won, .inl (cI, ln, .inl fwn))], rfl, ⟨rfl, (Or.inr rfl)⟩, by rw [htz]; exact hP9, va_K.moved hWz.alike hK, hD9⟩, hS.F htz⟩) hS.2.2 dX0_isLostBehind_22

set_option maxHeartbeats 4000000 in
set_option maxRecDepth 100000 in
theorem c_X0_learnWon (l : Launch) (D : va_G) (cB cI cJ cS cZ cO : ClassId) (sz : Nat) (o : Nat) (t : Nat) (gm_won : Nat) (gm_depths : Nat) (gm_gains : Nat) (kn : Int32) (gm_isDepthKnown : Int32) (gm_isGainKnown : Int32) (ln : Nat) (fwn : Nat → Int32) (k_name : Nat) (k_worth : Nat) (k_times : Nat) (k_first : Nat) (k_second : Nat) (k_beforeLast : Nat) (k_last : Nat) (k_errandOf : Nat) (k_errandAfter : Nat) (k_sound : Nat) (k_followers : Nat) (k_leaders : Nat) (w : Nat) (k_errands : Int32) (k_alikes : Int32) (k_law : Int32) (f_leaders : Nat → Int32) (sN : Nat) (gW : Nat) (hs : sN = 2 ^ w) (hw4 : w ≤ 14) (hs1 : 1 ≤ sN) (hs2 : sN ≤ 16384) (hln : ln ≤ 16384) (hgW : ln < sN → sN ≤ gW) (hkn : (kn = 0 ∨ sN ≤ ln)) : Met l yX0_learnWon wsX0_learnWon ({ frames := 2, cells := 1, slots := gW, locals := 43 }) (xPre D (tyL cB cI cJ cS cZ cO) [(o, .inr (0, [.ref gm_won, .ref gm_depths, .ref gm_gains, .int kn, .int gm_isDepthKnown, .int gm_isGainKnown])), (gm_won, .inl (cI, ln, .inl fwn)), (t, .inr (8, [.ref k_name, .ref k_worth, .ref k_times, .ref k_first, .ref k_second, .ref k_beforeLast, .ref k_last, .ref k_errandOf, .ref k_errandAfter, .ref k_sound, .ref k_followers, .ref k_leaders, .int (nI w), .int k_errands, .int k_alikes, .int k_law])), (k_leaders, .inl (cI, 24, .inl f_leaders))] sz [.ref o, .ref t]) (xQv D (tyL cB cI cJ cS cZ cO) (va_A [(o, .inr (0, [.ref gm_won, .ref gm_depths, .ref gm_gains, .int kn, .int gm_isDepthKnown, .int gm_isGainKnown])), (gm_won, .inl (cI, ln, .inl fwn)), (t, .inr (8, [.ref k_name, .ref k_worth, .ref k_times, .ref k_first, .ref k_second, .ref k_beforeLast, .ref k_last, .ref k_errandOf, .ref k_errandAfter, .ref k_sound, .ref k_followers, .ref k_leaders, .int (nI w), .int k_errands, .int k_alikes, .int k_law])), (k_leaders, .inl (cI, 24, .inl f_leaders))] sz) (fun u : va_W => ∃ k2 : Int32, ∃ wn2 : Nat, ∃ ln2 : Nat, ∃ gwn : Nat → Int32, u = [(o, .inr (0, [.ref wn2, .ref gm_depths, .ref gm_gains, .int k2, .int gm_isDepthKnown, .int gm_isGainKnown])), (wn2, .inl (cI, ln2, .inl gwn)), (t, .inr (8, [.ref k_name, .ref k_worth, .ref k_times, .ref k_first, .ref k_second, .ref k_beforeLast, .ref k_last, .ref k_errandOf, .ref k_errandAfter, .ref k_sound, .ref k_followers, .ref k_leaders, .int (nI w), .int k_errands, .int k_alikes, .int k_law])), (k_leaders, .inl (cI, 24, .inl f_leaders))] ∧ sN ≤ ln2 ∧ ln2 ≤ 16384 ∧ (ln2 = ln ∨ (ln < sN ∧ ln2 = sN)) ∧ k2 ≠ 0)) 1 gW (va_A [(o, .inr (0, [.ref gm_won, .ref gm_depths, .ref gm_gains, .int kn, .int gm_isDepthKnown, .int gm_isGainKnown])), (gm_won, .inl (cI, ln, .inl fwn)), (t, .inr (8, [.ref k_name, .ref k_worth, .ref k_times, .ref k_first, .ref k_second, .ref k_beforeLast, .ref k_last, .ref k_errandOf, .ref k_errandAfter, .ref k_sound, .ref k_followers, .ref k_leaders, .int (nI w), .int k_errands, .int k_alikes, .int k_law])), (k_leaders, .inl (cI, 24, .inl f_leaders))] sz) := by
  refine Met.ofW (cc := cX0_learnWon) (maxL := 6) (ret := none) (by decide) rfl ?_
  intro p e s m args below meth c s₁ B hml hv
  obtain ⟨rfl, hsz, hP, hK, hD0, hN⟩ := hv
  have hx := B.exec
  have hb := B.bytes
  have hr := B.returns
  have hts := atoms_spec (ws := wsX0_learnWon) B.pre
  have hown : s.vm.findClass RX0 = some m.cls := findClass_of_methodNamed B.named
  have hlocks := B.notSynchronized
  subst hsz
  have hD := hD0.self (sz := s.heap.size)
  generalize hAe : va_A [(o, .inr (0, [.ref gm_won, .ref gm_depths, .ref gm_gains, .int kn, .int gm_isDepthKnown, .int gm_isGainKnown])), (gm_won, .inl (cI, ln, .inl fwn)), (t, .inr (8, [.ref k_name, .ref k_worth, .ref k_times, .ref k_first, .ref k_second, .ref k_beforeLast, .ref k_last, .ref k_errandOf, .ref k_errandAfter, .ref k_sound, .ref k_followers, .ref k_leaders, .int (nI w), .int k_errands, .int k_alikes, .int k_law])), (k_leaders, .inl (cI, 24, .inl f_leaders))] s.heap.size = A at hD ⊢
  have hA : ∀ q : Nat, s.heap.size ≤ q → A q := fun q h => by rw [← hAe]; exact Or.inr h
  have hS : va_S A s.heap s.heap [] := va_S.rf
  have hP : va_P D vwCl [(o, .inr (0, [.ref gm_won, .ref gm_depths, .ref gm_gains, .int kn, .int gm_isDepthKnown, .int gm_isGainKnown])), (gm_won, .inl (cI, ln, .inl fwn)), (t, .inr (8, [.ref k_name, .ref k_worth, .ref k_times, .ref k_first, .ref k_second, .ref k_beforeLast, .ref k_last, .ref k_errandOf, .ref k_errandAfter, .ref k_sound, .ref k_followers, .ref k_leaders, .int (nI w), .int k_errands, .int k_alikes, .int k_law])), (k_leaders, .inl (cI, 24, .inl f_leaders))] s.heap := hP
  have hl := lv_entry ([.ref o, .ref t]) (n := 6) (Nat.le_of_ble_eq_true rfl)
  rw [lg_entry_eq]
  generalize (lg_sl ([.ref o, .ref t]) ++ List.replicate (6 - (lg_sl ([.ref o, .ref t])).length) Slot.unset).toArray = ls at hl ⊢
  have hl : lv_has ls 6 [(0, .ref o), (1, .ref t)] := hl
  refine lv_iconst (v := 1) hx hb dX0_learnWon_0 (by decide) ?_
  refine lv_aload_n hx hb dX0_learnWon_1 rfl (lv_at hl 1 rfl) ?_
  refine va_getN (D := D) (ci := 8) (v := .int (nI w)) (C := RX8) (T := TX8) (N := 16) hx hb hts (by decide +kernel) hown hK hP 2 rfl rfl 12 (by decide) (va_Nw.use rfl (hN.1 (RX0, 50, RX8, "words", "I", RX10) (by decide +kernel))) (fun _ h9 => h9) rfl dX0_learnWon_2 ?_
  refine lv_ishl hx hb dX0_learnWon_5 ?_
  refine xb_top (y := nI sN) (by rw [hs]; exact (nb_shl (a := 1) (i := w) (by omega)).trans (by rw [Nat.one_mul])) ?_
  refine lv_istore_n (lv' := [(2, .int (nI sN)), (0, .ref o), (1, .ref t)]) hx hb dX0_learnWon_6 rfl hl (by decide) rfl (fun ls hl => ?_)
  refine lv_aload_n hx hb dX0_learnWon_7 rfl (lv_at hl 1 rfl) ?_
  refine va_get (D := D) (ci := 0) (v := .int kn) (C := RX0) (T := TX0) (N := 6) hx hb hts (by decide +kernel) hown hK hP 0 rfl rfl 3 (by decide) (hts (.fieldLink RX0 23 "LastLetter$Games" "isWonKnown" "Z") (by decide +kernel)) (fun _ h9 => h9) rfl dX0_learnWon_8 ?_
  refine lv_if_eq (tgt := 15) hx hb dX0_learnWon_11 (by decide) (fun c_1 => ?_) (fun c_1 => ?_)
  · refine lv_aload_n hx hb dX0_learnWon_15 rfl (lv_at hl 1 rfl) ?_
    refine va_get (D := D) (ci := 0) (v := .ref gm_won) (C := RX0) (T := TX0) (N := 6) hx hb hts (by decide +kernel) hown hK hP 0 rfl rfl 0 (by decide) (hts (.fieldLink RX0 9 "LastLetter$Games" "won" "[I") (by decide +kernel)) (fun _ h9 => h9) rfl dX0_learnWon_16 ?_
    refine va_alen (v := nI ln) hx hb hK hP 1 1 rfl rfl rfl dX0_learnWon_19 ?_
    refine lv_iload_n hx hb dX0_learnWon_20 rfl (lv_at hl 0 rfl) ?_
    refine lv_icmp_ge (tgt := 31) hx hb dX0_learnWon_21 (by decide) (fun c_2 => ?_) (fun c_2 => ?_)
    · have dc_2 : sN ≤ ln := (nI_leI (a := sN) (b := ln) (by omega) (by omega)).mp c_2
      refine lv_iconst (v := 0) hx hb dX0_learnWon_31 (by decide) ?_
      refine lv_istore_n (lv' := [(3, .int 0), (2, .int (nI sN)), (0, .ref o), (1, .ref t)]) hx hb dX0_learnWon_32 rfl hl (by decide) rfl (fun ls hl => ?_)
      refine xb_wh (fun (n9 : Nat) H locs ls => ∃ st : Nat, ∃ gwn : Nat → Int32, (sN - st) = n9 ∧ va_P D vwCl [(o, .inr (0, [.ref gm_won, .ref gm_depths, .ref gm_gains, .int kn, .int gm_isDepthKnown, .int gm_isGainKnown])), (gm_won, .inl (cI, ln, .inl gwn)), (t, .inr (8, [.ref k_name, .ref k_worth, .ref k_times, .ref k_first, .ref k_second, .ref k_beforeLast, .ref k_last, .ref k_errandOf, .ref k_errandAfter, .ref k_sound, .ref k_followers, .ref k_leaders, .int (nI w), .int k_errands, .int k_alikes, .int k_law])), (k_leaders, .inl (cI, 24, .inl f_leaders))] H ∧ va_D A [(o, .inr (0, [.ref gm_won, .ref gm_depths, .ref gm_gains, .int kn, .int gm_isDepthKnown, .int gm_isGainKnown])), (gm_won, .inl (cI, ln, .inl gwn)), (t, .inr (8, [.ref k_name, .ref k_worth, .ref k_times, .ref k_first, .ref k_second, .ref k_beforeLast, .ref k_last, .ref k_errandOf, .ref k_errandAfter, .ref k_sound, .ref k_followers, .ref k_leaders, .int (nI w), .int k_errands, .int k_alikes, .int k_law])), (k_leaders, .inl (cI, 24, .inl f_leaders))] ∧ va_S A s.heap H locs ∧ lv_has ls 6 [(3, .int (nI st)), (2, .int (nI sN)), (0, .ref o), (1, .ref t)] ∧ (st ≤ sN)) ⟨0, fwn, rfl, hP, hD, hS, lv_sub hl [0, 1, 2, 3] rfl, (Nat.zero_le _)⟩ (fun n9 H locs ls hI kk_33 => ?_)
      obtain ⟨st, gwn, hn_33, hP, hD, hS, hl, hF_h_3⟩ := hI
      refine lv_iload_n hx hb dX0_learnWon_33 rfl (lv_at hl 0 rfl) ?_
      refine lv_iload_n hx hb dX0_learnWon_34 rfl (lv_at hl 1 rfl) ?_
      refine lv_icmp_ge (tgt := 104) hx hb dX0_learnWon_35 (by decide) (fun c_4 => ?_) (fun c_4 => ?_)
      · have dc_4 : sN ≤ st := (nI_leI (a := sN) (b := st) (by omega) (by omega)).mp c_4
        refine lv_aload_n hx hb dX0_learnWon_104 rfl (lv_at hl 2 rfl) ?_
        refine lv_iconst (v := 1) hx hb dX0_learnWon_105 (by decide) ?_
        refine va_put (D := D) (ci := 0) (v := .int 1) (ty := .boolean) (C := RX0) (T := TX0) (N := 6) hx hb hts (by decide +kernel) tyX0 tyX0_ok nmX0 hown hK hP hD hS 0 rfl rfl 3 (by decide) (hts (.fieldLink RX0 23 "LastLetter$Games" "isWonKnown" "Z") (by decide +kernel)) (fun _ h9 => h9) rfl (by decide +kernel) rfl rfl (Nat.le_of_ble_eq_true rfl) dX0_learnWon_106 (fun H locs hP hD hS => ?_)
        have hP : va_P D vwCl [(o, .inr (0, [.ref gm_won, .ref gm_depths, .ref gm_gains, .int 1, .int gm_isDepthKnown, .int gm_isGainKnown])), (gm_won, .inl (cI, ln, .inl gwn)), (t, .inr (8, [.ref k_name, .ref k_worth, .ref k_times, .ref k_first, .ref k_second, .ref k_beforeLast, .ref k_last, .ref k_errandOf, .ref k_errandAfter, .ref k_sound, .ref k_followers, .ref k_leaders, .int (nI w), .int k_errands, .int k_alikes, .int k_law])), (k_leaders, .inl (cI, 24, .inl f_leaders))] H := hP
        have hD : va_D A [(o, .inr (0, [.ref gm_won, .ref gm_depths, .ref gm_gains, .int 1, .int gm_isDepthKnown, .int gm_isGainKnown])), (gm_won, .inl (cI, ln, .inl gwn)), (t, .inr (8, [.ref k_name, .ref k_worth, .ref k_times, .ref k_first, .ref k_second, .ref k_beforeLast, .ref k_last, .ref k_errandOf, .ref k_errandAfter, .ref k_sound, .ref k_followers, .ref k_leaders, .int (nI w), .int k_errands, .int k_alikes, .int k_law])), (k_leaders, .inl (cI, 24, .inl f_leaders))] := hD
        have hP9 := hP.sub (ws' := [(o, .inr (0, [.ref gm_won, .ref gm_depths, .ref gm_gains, .int 1, .int gm_isDepthKnown, .int gm_isGainKnown])), (gm_won, .inl (cI, ln, .inl gwn)), (t, .inr (8, [.ref k_name, .ref k_worth, .ref k_times, .ref k_first, .ref k_second, .ref k_beforeLast, .ref k_last, .ref k_errandOf, .ref k_errandAfter, .ref k_sound, .ref k_followers, .ref k_leaders, .int (nI w), .int k_errands, .int k_alikes, .int k_law])), (k_leaders, .inl (cI, 24, .inl f_leaders))]) [0, 1, 2, 3] rfl
        have hD9 := hD.sub (ws' := [(o, .inr (0, [.ref gm_won, .ref gm_depths, .ref gm_gains, .int 1, .int gm_isDepthKnown, .int gm_isGainKnown])), (gm_won, .inl (cI, ln, .inl gwn)), (t, .inr (8, [.ref k_name, .ref k_worth, .ref k_times, .ref k_first, .ref k_second, .ref k_beforeLast, .ref k_last, .ref k_errandOf, .ref k_errandAfter, .ref k_sound, .ref k_followers, .ref k_leaders, .int (nI w), .int k_errands, .int k_alikes, .int k_law])), (k_leaders, .inl (cI, 24, .inl f_leaders))]) [0, 1, 2, 3] (by decide) rfl
        refine W.widen (k := 1) (n := gW) (show 0 ≤ 1 by omega) (show 0 ≤ gW by omega) ?_
        exact W.vret hx hb hr (fun tz htz hWz => ⟨⟨[(o, .inr (0, [.ref gm_won, .ref gm_depths, .ref gm_gains, .int 1, .int gm_isDepthKnown, .int gm_isGainKnown])), (gm_won, .inl (cI, ln, .inl gwn)), (t, .inr (8, [.ref k_name, .ref k_worth, .ref k_times, .ref k_first, .ref k_second, .ref k_beforeLast, .ref k_last, .ref k_errandOf, .ref k_errandAfter, .ref k_sound, .ref k_followers, .ref k_leaders, .int (nI w), .int k_errands, .int k_alikes, .int k_law])), (k_leaders, .inl (cI, 24, .inl f_leaders))], rfl, ⟨1, gm_won, ln, gwn, rfl, (by omega), (by omega), (Or.inl rfl), (by decide)⟩, by rw [htz]; exact hP9, va_K.moved hWz.alike hK, hD9⟩, hS.F htz⟩) hS.2.2 dX0_learnWon_109
      · have dc_4 : ¬ sN ≤ st := fun h => c_4 ((nI_leI (a := sN) (b := st) (by omega) (by omega)).mpr h)
        refine lv_iconst (v := 0) hx hb dX0_learnWon_38 (by decide) ?_
        refine lv_istore (lv' := [(4, .int 0), (3, .int (nI st)), (2, .int (nI sN)), (0, .ref o), (1, .ref t)]) hx hb dX0_learnWon_39 hl (by decide) rfl (fun ls hl => ?_)
        refine lv_iconst (v := 0) hx hb dX0_learnWon_41 (by decide) ?_
        refine lv_istore (lv' := [(5, .int 0), (4, .int 0), (3, .int (nI st)), (2, .int (nI sN)), (0, .ref o), (1, .ref t)]) hx hb dX0_learnWon_42 hl (by decide) rfl (fun ls hl => ?_)
        refine xb_wh (fun (n9 : Nat) H locs ls => ∃ k : Nat, ∃ bits : Int32, (w - k) = n9 ∧ va_P D vwCl [(o, .inr (0, [.ref gm_won, .ref gm_depths, .ref gm_gains, .int kn, .int gm_isDepthKnown, .int gm_isGainKnown])), (gm_won, .inl (cI, ln, .inl gwn)), (t, .inr (8, [.ref k_name, .ref k_worth, .ref k_times, .ref k_first, .ref k_second, .ref k_beforeLast, .ref k_last, .ref k_errandOf, .ref k_errandAfter, .ref k_sound, .ref k_followers, .ref k_leaders, .int (nI w), .int k_errands, .int k_alikes, .int k_law])), (k_leaders, .inl (cI, 24, .inl f_leaders))] H ∧ va_D A [(o, .inr (0, [.ref gm_won, .ref gm_depths, .ref gm_gains, .int kn, .int gm_isDepthKnown, .int gm_isGainKnown])), (gm_won, .inl (cI, ln, .inl gwn)), (t, .inr (8, [.ref k_name, .ref k_worth, .ref k_times, .ref k_first, .ref k_second, .ref k_beforeLast, .ref k_last, .ref k_errandOf, .ref k_errandAfter, .ref k_sound, .ref k_followers, .ref k_leaders, .int (nI w), .int k_errands, .int k_alikes, .int k_law])), (k_leaders, .inl (cI, 24, .inl f_leaders))] ∧ va_S A s.heap H locs ∧ lv_has ls 6 [(5, .int (nI k)), (4, .int bits), (3, .int (nI st)), (2, .int (nI sN)), (0, .ref o), (1, .ref t)] ∧ (k ≤ w)) ⟨0, 0, rfl, hP, hD, hS, lv_sub hl [0, 1, 2, 3, 4, 5] rfl, (by first | assumption | omega)⟩ (fun n9 H locs ls hI kk_44 => ?_)
        obtain ⟨k, bits, hn_44, hP, hD, hS, hl, hF_h_5⟩ := hI
        refine lv_iload hx hb dX0_learnWon_44 (lv_at hl 0 rfl) ?_
        refine lv_aload_n hx hb dX0_learnWon_46 rfl (lv_at hl 5 rfl) ?_
        refine va_getN (D := D) (ci := 8) (v := .int (nI w)) (C := RX8) (T := TX8) (N := 16) hx hb hts (by decide +kernel) hown hK hP 2 rfl rfl 12 (by decide) (va_Nw.use rfl (hN.1 (RX0, 50, RX8, "words", "I", RX10) (by decide +kernel))) (fun _ h9 => h9) rfl dX0_learnWon_47 ?_
        refine lv_icmp_ge (tgt := 90) hx hb dX0_learnWon_50 (by decide) (fun c_6 => ?_) (fun c_6 => ?_)
        · have dc_6 : w ≤ k := (nI_leI (a := w) (b := k) (by omega) (by omega)).mp c_6
          refine lv_aload_n hx hb dX0_learnWon_90 rfl (lv_at hl 4 rfl) ?_
          refine va_get (D := D) (ci := 0) (v := .ref gm_won) (C := RX0) (T := TX0) (N := 6) hx hb hts (by decide +kernel) hown hK hP 0 rfl rfl 0 (by decide) (hts (.fieldLink RX0 9 "LastLetter$Games" "won" "[I") (by decide +kernel)) (fun _ h9 => h9) rfl dX0_learnWon_91 ?_
          refine lv_iload_n hx hb dX0_learnWon_94 rfl (lv_at hl 2 rfl) ?_
          refine lv_iload hx hb dX0_learnWon_95 (lv_at hl 1 rfl) ?_
          refine va_iast hx hb hK hP hD hS 1 1 rfl rfl (vp_in_nI (by omega) (by omega)) dX0_learnWon_97 (fun H locs hP hD hS => ?_)
          have hP : va_P D vwCl [(o, .inr (0, [.ref gm_won, .ref gm_depths, .ref gm_gains, .int kn, .int gm_isDepthKnown, .int gm_isGainKnown])), (gm_won, .inl (cI, ln, .inl (upd gwn (Int32.toNatClampNeg (nI st)) bits))), (t, .inr (8, [.ref k_name, .ref k_worth, .ref k_times, .ref k_first, .ref k_second, .ref k_beforeLast, .ref k_last, .ref k_errandOf, .ref k_errandAfter, .ref k_sound, .ref k_followers, .ref k_leaders, .int (nI w), .int k_errands, .int k_alikes, .int k_law])), (k_leaders, .inl (cI, 24, .inl f_leaders))] H := hP
          have hD : va_D A [(o, .inr (0, [.ref gm_won, .ref gm_depths, .ref gm_gains, .int kn, .int gm_isDepthKnown, .int gm_isGainKnown])), (gm_won, .inl (cI, ln, .inl (upd gwn (Int32.toNatClampNeg (nI st)) bits))), (t, .inr (8, [.ref k_name, .ref k_worth, .ref k_times, .ref k_first, .ref k_second, .ref k_beforeLast, .ref k_last, .ref k_errandOf, .ref k_errandAfter, .ref k_sound, .ref k_followers, .ref k_leaders, .int (nI w), .int k_errands, .int k_alikes, .int k_law])), (k_leaders, .inl (cI, 24, .inl f_leaders))] := hD
          generalize eg_7 : upd gwn (Int32.toNatClampNeg (nI st)) bits = g_7 at hP hD
          refine lv_iinc (v := nI (st + 1)) (lv' := [(3, .int (nI (st + 1))), (5, .int (nI k)), (4, .int bits), (2, .int (nI sN)), (0, .ref o), (1, .ref t)]) hx hb dX0_learnWon_98 hl (k := 2) rfl (nI_1 st) (by decide) rfl (fun ls hl => ?_)
          refine lv_goto (tgt := 33) hx hb dX0_learnWon_101 (by decide) ?_
          exact kk_33 _ _ _ _ (by rw [← hn_33]; omega) ⟨(st + 1), g_7, rfl, hP, hD, hS, lv_sub hl [0, 3, 4, 5] rfl, (by first | assumption | omega)⟩
        · have dc_6 : ¬ w ≤ k := fun h => c_6 ((nI_leI (a := w) (b := k) (by omega) (by omega)).mpr h)
          refine lv_iload_n hx hb dX0_learnWon_53 rfl (lv_at hl 2 rfl) ?_
          refine lv_iload hx hb dX0_learnWon_54 (lv_at hl 0 rfl) ?_
          refine xCi (wr := [(o, .inr (0, [.ref gm_won, .ref gm_depths, .ref gm_gains, .int kn, .int gm_isDepthKnown, .int gm_isGainKnown])), (gm_won, .inl (cI, ln, .inl gwn)), (t, .inr (8, [.ref k_name, .ref k_worth, .ref k_times, .ref k_first, .ref k_second, .ref k_beforeLast, .ref k_last, .ref k_errandOf, .ref k_errandAfter, .ref k_sound, .ref k_followers, .ref k_leaders, .int (nI w), .int k_errands, .int k_alikes, .int k_law])), (k_leaders, .inl (cI, 24, .inl f_leaders))]) (win := []) hP hD hS hA [] [0, 1, 2, 3] rfl rfl (by decide) (by decide) (va_runSN (As := [.int (nI st), .int (nI k)]) (rest := []) ⟨hx, hb, hml, hown, hts⟩ (c_X10_isIn_n l D cB cI cJ cS cZ cO H.size st k (by first | assumption | omega | decide) (by first | assumption | omega | decide)) ⟨va_cnB 2 hts gX0_learnWon_X10_isIn_n43 rfl rfl rfl (hN.2.1 (RX0, 43, yX10_isIn, RX10) (by decide +kernel)) (hts (.initialized RX10) (by decide +kernel)) (by decide +kernel) ⟨Nat.le_of_ble_eq_true rfl, Nat.le_of_ble_eq_true rfl⟩, hts (.static yX10_isIn) (by decide +kernel), trivial⟩ (xPreS (win := []) hN hK hP hD [] (by decide) rfl) rfl rfl hl.1 rfl (lv_room (Nat.le_of_ble_eq_true rfl)) dX0_learnWon_56 ⟨show 0 + 0 ≤ 1 by omega, show 0 + 0 ≤ gW by omega⟩) (fun r_8 w0 H locs hw hP hD hS => ?_)
          obtain ⟨rfl, hf_9⟩ := hw
          have hP : va_P D vwCl [(o, .inr (0, [.ref gm_won, .ref gm_depths, .ref gm_gains, .int kn, .int gm_isDepthKnown, .int gm_isGainKnown])), (gm_won, .inl (cI, ln, .inl gwn)), (t, .inr (8, [.ref k_name, .ref k_worth, .ref k_times, .ref k_first, .ref k_second, .ref k_beforeLast, .ref k_last, .ref k_errandOf, .ref k_errandAfter, .ref k_sound, .ref k_followers, .ref k_leaders, .int (nI w), .int k_errands, .int k_alikes, .int k_law])), (k_leaders, .inl (cI, 24, .inl f_leaders))] H := hP
          have hD : va_D A [(o, .inr (0, [.ref gm_won, .ref gm_depths, .ref gm_gains, .int kn, .int gm_isDepthKnown, .int gm_isGainKnown])), (gm_won, .inl (cI, ln, .inl gwn)), (t, .inr (8, [.ref k_name, .ref k_worth, .ref k_times, .ref k_first, .ref k_second, .ref k_beforeLast, .ref k_last, .ref k_errandOf, .ref k_errandAfter, .ref k_sound, .ref k_followers, .ref k_leaders, .int (nI w), .int k_errands, .int k_alikes, .int k_law])), (k_leaders, .inl (cI, 24, .inl f_leaders))] := hD
          refine lv_if_eq (tgt := 84) hx hb dX0_learnWon_59 (by decide) (fun c_10 => ?_) (fun c_10 => ?_)
          · refine lv_iinc (v := nI (k + 1)) (lv' := [(5, .int (nI (k + 1))), (4, .int bits), (3, .int (nI st)), (2, .int (nI sN)), (0, .ref o), (1, .ref t)]) hx hb dX0_learnWon_84 hl (k := 0) rfl (nI_1 k) (by decide) rfl (fun ls hl => ?_)
            refine lv_goto (tgt := 44) hx hb dX0_learnWon_87 (by decide) ?_
            exact kk_44 _ _ _ _ (by rw [← hn_44]; omega) ⟨(k + 1), bits, rfl, hP, hD, hS, lv_sub hl [0, 1, 2, 3, 4, 5] rfl, (by first | assumption | omega)⟩
          · refine lv_aload_n hx hb dX0_learnWon_62 rfl (lv_at hl 4 rfl) ?_
            refine lv_iload_n hx hb dX0_learnWon_63 rfl (lv_at hl 2 rfl) ?_
            refine lv_iload hx hb dX0_learnWon_64 (lv_at hl 0 rfl) ?_
            refine xCi (wr := [(t, .inr (8, [.ref k_name, .ref k_worth, .ref k_times, .ref k_first, .ref k_second, .ref k_beforeLast, .ref k_last, .ref k_errandOf, .ref k_errandAfter, .ref k_sound, .ref k_followers, .ref k_leaders, .int (nI w), .int k_errands, .int k_alikes, .int k_law])), (k_leaders, .inl (cI, 24, .inl f_leaders))]) (win := [(o, .inr (0, [.ref gm_won, .ref gm_depths, .ref gm_gains, .int kn, .int gm_isDepthKnown, .int gm_isGainKnown])), (gm_won, .inl (cI, ln, .inl gwn))]) hP hD hS hA [0, 1] [2, 3] rfl rfl (by decide) (by decide) (va_runV (As := [.int (nI st), .int (nI k)]) (rest := []) ⟨hx, hb, hml, hown, hts⟩ (c_X0_isLostBehind l D cB cI cJ cS cZ cO H.size o st k gm_won gm_depths gm_gains kn gm_isDepthKnown gm_isGainKnown ln gwn sN w (by first | assumption | omega | decide) (by first | assumption | omega | decide) (by first | assumption | omega | decide) (by first | assumption | omega | decide) (by first | assumption | omega | decide) (by first | assumption | omega | decide) (by first | assumption | omega | decide) (by first | assumption | omega | decide)) (cwV 2 hts gX0_learnWon_X0_isLostBehind rfl rfl rfl (by decide +kernel) ⟨Nat.le_of_ble_eq_true rfl, Nat.le_of_ble_eq_true rfl⟩) (xPreV (win := [(o, .inr (0, [.ref gm_won, .ref gm_depths, .ref gm_gains, .int kn, .int gm_isDepthKnown, .int gm_isGainKnown])), (gm_won, .inl (cI, ln, .inl gwn))]) hN hK hP hD [0, 1] (by decide) rfl 0 0 rfl rfl rfl) rfl rfl hl.1 rfl (lv_room (Nat.le_of_ble_eq_true rfl)) dX0_learnWon_66 ⟨show 0 + 0 ≤ 1 by omega, show 0 + 0 ≤ gW by omega⟩) (fun r_11 w0 H locs hw hP hD hS => ?_)
            obtain ⟨rfl, hf_12⟩ := hw
            have hP : va_P D vwCl [(t, .inr (8, [.ref k_name, .ref k_worth, .ref k_times, .ref k_first, .ref k_second, .ref k_beforeLast, .ref k_last, .ref k_errandOf, .ref k_errandAfter, .ref k_sound, .ref k_followers, .ref k_leaders, .int (nI w), .int k_errands, .int k_alikes, .int k_law])), (k_leaders, .inl (cI, 24, .inl f_leaders)), (o, .inr (0, [.ref gm_won, .ref gm_depths, .ref gm_gains, .int kn, .int gm_isDepthKnown, .int gm_isGainKnown])), (gm_won, .inl (cI, ln, .inl gwn))] H := hP
            have hD : va_D A [(t, .inr (8, [.ref k_name, .ref k_worth, .ref k_times, .ref k_first, .ref k_second, .ref k_beforeLast, .ref k_last, .ref k_errandOf, .ref k_errandAfter, .ref k_sound, .ref k_followers, .ref k_leaders, .int (nI w), .int k_errands, .int k_alikes, .int k_law])), (k_leaders, .inl (cI, 24, .inl f_leaders)), (o, .inr (0, [.ref gm_won, .ref gm_depths, .ref gm_gains, .int kn, .int gm_isDepthKnown, .int gm_isGainKnown])), (gm_won, .inl (cI, ln, .inl gwn))] := hD
            refine lv_if_eq (tgt := 84) hx hb dX0_learnWon_69 (by decide) (fun c_13 => ?_) (fun c_13 => ?_)
            · refine lv_iinc (v := nI (k + 1)) (lv' := [(5, .int (nI (k + 1))), (4, .int bits), (3, .int (nI st)), (2, .int (nI sN)), (0, .ref o), (1, .ref t)]) hx hb dX0_learnWon_84 hl (k := 0) rfl (nI_1 k) (by decide) rfl (fun ls hl => ?_)
              refine lv_goto (tgt := 44) hx hb dX0_learnWon_87 (by decide) ?_
              exact kk_44 _ _ _ _ (by rw [← hn_44]; omega) ⟨(k + 1), bits, rfl, hP.sub [2, 3, 0, 1] rfl, hD.sub [2, 3, 0, 1] (by decide) rfl, hS, lv_sub hl [0, 1, 2, 3, 4, 5] rfl, (by first | assumption | omega)⟩
            · refine lv_iload hx hb dX0_learnWon_72 (lv_at hl 1 rfl) ?_
              refine lv_aload_n hx hb dX0_learnWon_74 rfl (lv_at hl 5 rfl) ?_
              refine va_getN (D := D) (ci := 8) (v := .ref k_leaders) (C := RX8) (T := TX8) (N := 16) hx hb hts (by decide +kernel) hown hK hP 0 rfl rfl 11 (by decide) (va_Nw.use rfl (hN.1 (RX0, 67, RX8, "leaders", "[I", RX10) (by decide +kernel))) (fun _ h9 => h9) rfl dX0_learnWon_75 ?_
              refine lv_iload hx hb dX0_learnWon_78 (lv_at hl 0 rfl) ?_
              refine va_iald hx hb hK hP 1 1 rfl rfl (vp_in_nI (by omega) (by omega)) dX0_learnWon_80 ?_
              refine xb_top (y := f_leaders k) (by rw [nI_clamp (by omega)]) ?_
              refine lv_ior hx hb dX0_learnWon_81 ?_
              refine lv_istore (lv' := [(4, .int (bits ||| (f_leaders k))), (5, .int (nI k)), (3, .int (nI st)), (2, .int (nI sN)), (0, .ref o), (1, .ref t)]) hx hb dX0_learnWon_82 hl (by decide) rfl (fun ls hl => ?_)
              refine lv_iinc (v := nI (k + 1)) (lv' := [(5, .int (nI (k + 1))), (4, .int (bits ||| (f_leaders k))), (3, .int (nI st)), (2, .int (nI sN)), (0, .ref o), (1, .ref t)]) hx hb dX0_learnWon_84 hl (k := 1) rfl (nI_1 k) (by decide) rfl (fun ls hl => ?_)
              refine lv_goto (tgt := 44) hx hb dX0_learnWon_87 (by decide) ?_
              exact kk_44 _ _ _ _ (by rw [← hn_44]; omega) ⟨(k + 1), (bits ||| (f_leaders k)), rfl, hP.sub [2, 3, 0, 1] rfl, hD.sub [2, 3, 0, 1] (by decide) rfl, hS, lv_sub hl [0, 1, 2, 3, 4, 5] rfl, (by first | assumption | omega)⟩
    · have dc_2 : ¬ sN ≤ ln := fun h => c_2 ((nI_leI (a := sN) (b := ln) (by omega) (by omega)).mpr h)
      refine lv_aload_n hx hb dX0_learnWon_24 rfl (lv_at hl 1 rfl) ?_
      refine lv_iload_n hx hb dX0_learnWon_25 rfl (lv_at hl 0 rfl) ?_
      refine xnewa (atype := .int) (a0 := (sN, .inl (fun _ => 0))) (ty := .int) hx hb (hts (.arrayClass .int) (by decide +kernel)) rfl hK 1 rfl hP hD hS hA (fun _ => rfl) (nI_pos (by omega)) (nI_clamp (by omega)) (show sN * 4 ≤ 536870912 by omega) (show 0 + 1 ≤ 1 by omega) (show 0 + sN ≤ gW by omega) dX0_learnWon_26 (fun q_14 H hP hD hS => ?_)
      refine W.widen (k := 1) (n := 0 + sN) (Nat.le_refl _) (Nat.le_refl _) ?_
      have hP : va_P D vwCl [(o, .inr (0, [.ref gm_won, .ref gm_depths, .ref gm_gains, .int kn, .int gm_isDepthKnown, .int gm_isGainKnown])), (gm_won, .inl (cI, ln, .inl fwn)), (t, .inr (8, [.ref k_name, .ref k_worth, .ref k_times, .ref k_first, .ref k_second, .ref k_beforeLast, .ref k_last, .ref k_errandOf, .ref k_errandAfter, .ref k_sound, .ref k_followers, .ref k_leaders, .int (nI w), .int k_errands, .int k_alikes, .int k_law])), (k_leaders, .inl (cI, 24, .inl f_leaders)), (q_14, .inl (cI, sN, .inl (fun _ => 0)))] H := hP
      have hD : va_D A [(o, .inr (0, [.ref gm_won, .ref gm_depths, .ref gm_gains, .int kn, .int gm_isDepthKnown, .int gm_isGainKnown])), (gm_won, .inl (cI, ln, .inl fwn)), (t, .inr (8, [.ref k_name, .ref k_worth, .ref k_times, .ref k_first, .ref k_second, .ref k_beforeLast, .ref k_last, .ref k_errandOf, .ref k_errandAfter, .ref k_sound, .ref k_followers, .ref k_leaders, .int (nI w), .int k_errands, .int k_alikes, .int k_law])), (k_leaders, .inl (cI, 24, .inl f_leaders)), (q_14, .inl (cI, sN, .inl (fun _ => 0)))] := hD
      refine va_put (D := D) (ci := 0) (v := .ref q_14) (ty := .array .int) (C := RX0) (T := TX0) (N := 6) hx hb hts (by decide +kernel) tyX0 tyX0_ok nmX0 hown hK hP hD hS 0 rfl rfl 0 (by decide) (hts (.fieldLink RX0 9 "LastLetter$Games" "won" "[I") (by decide +kernel)) (fun _ h9 => h9) rfl (by decide +kernel) rfl rfl (Nat.le_of_ble_eq_true rfl) dX0_learnWon_28 (fun H locs hP hD hS => ?_)
      have hP : va_P D vwCl [(o, .inr (0, [.ref q_14, .ref gm_depths, .ref gm_gains, .int kn, .int gm_isDepthKnown, .int gm_isGainKnown])), (gm_won, .inl (cI, ln, .inl fwn)), (t, .inr (8, [.ref k_name, .ref k_worth, .ref k_times, .ref k_first, .ref k_second, .ref k_beforeLast, .ref k_last, .ref k_errandOf, .ref k_errandAfter, .ref k_sound, .ref k_followers, .ref k_leaders, .int (nI w), .int k_errands, .int k_alikes, .int k_law])), (k_leaders, .inl (cI, 24, .inl f_leaders)), (q_14, .inl (cI, sN, .inl (fun _ => 0)))] H := hP
      have hD : va_D A [(o, .inr (0, [.ref q_14, .ref gm_depths, .ref gm_gains, .int kn, .int gm_isDepthKnown, .int gm_isGainKnown])), (gm_won, .inl (cI, ln, .inl fwn)), (t, .inr (8, [.ref k_name, .ref k_worth, .ref k_times, .ref k_first, .ref k_second, .ref k_beforeLast, .ref k_last, .ref k_errandOf, .ref k_errandAfter, .ref k_sound, .ref k_followers, .ref k_leaders, .int (nI w), .int k_errands, .int k_alikes, .int k_law])), (k_leaders, .inl (cI, 24, .inl f_leaders)), (q_14, .inl (cI, sN, .inl (fun _ => 0)))] := hD
      refine lv_iconst (v := 0) hx hb dX0_learnWon_31 (by decide) ?_
      refine lv_istore_n (lv' := [(3, .int 0), (2, .int (nI sN)), (0, .ref o), (1, .ref t)]) hx hb dX0_learnWon_32 rfl hl (by decide) rfl (fun ls hl => ?_)
      refine xb_wh (fun (n9 : Nat) H locs ls => ∃ st : Nat, ∃ gwn : Nat → Int32, (sN - st) = n9 ∧ va_P D vwCl [(o, .inr (0, [.ref q_14, .ref gm_depths, .ref gm_gains, .int kn, .int gm_isDepthKnown, .int gm_isGainKnown])), (gm_won, .inl (cI, ln, .inl fwn)), (t, .inr (8, [.ref k_name, .ref k_worth, .ref k_times, .ref k_first, .ref k_second, .ref k_beforeLast, .ref k_last, .ref k_errandOf, .ref k_errandAfter, .ref k_sound, .ref k_followers, .ref k_leaders, .int (nI w), .int k_errands, .int k_alikes, .int k_law])), (k_leaders, .inl (cI, 24, .inl f_leaders)), (q_14, .inl (cI, sN, .inl gwn))] H ∧ va_D A [(o, .inr (0, [.ref q_14, .ref gm_depths, .ref gm_gains, .int kn, .int gm_isDepthKnown, .int gm_isGainKnown])), (gm_won, .inl (cI, ln, .inl fwn)), (t, .inr (8, [.ref k_name, .ref k_worth, .ref k_times, .ref k_first, .ref k_second, .ref k_beforeLast, .ref k_last, .ref k_errandOf, .ref k_errandAfter, .ref k_sound, .ref k_followers, .ref k_leaders, .int (nI w), .int k_errands, .int k_alikes, .int k_law])), (k_leaders, .inl (cI, 24, .inl f_leaders)), (q_14, .inl (cI, sN, .inl gwn))] ∧ va_S A s.heap H locs ∧ lv_has ls 6 [(3, .int (nI st)), (2, .int (nI sN)), (0, .ref o), (1, .ref t)] ∧ (st ≤ sN)) ⟨0, (fun _ => 0), rfl, hP, hD, hS, lv_sub hl [0, 1, 2, 3] rfl, (Nat.zero_le _)⟩ (fun n9 H locs ls hI kk_33 => ?_)
      obtain ⟨st, gwn, hn_33, hP, hD, hS, hl, hF_h_15⟩ := hI
      refine lv_iload_n hx hb dX0_learnWon_33 rfl (lv_at hl 0 rfl) ?_
      refine lv_iload_n hx hb dX0_learnWon_34 rfl (lv_at hl 1 rfl) ?_
      refine lv_icmp_ge (tgt := 104) hx hb dX0_learnWon_35 (by decide) (fun c_16 => ?_) (fun c_16 => ?_)
      · have dc_16 : sN ≤ st := (nI_leI (a := sN) (b := st) (by omega) (by omega)).mp c_16
        refine lv_aload_n hx hb dX0_learnWon_104 rfl (lv_at hl 2 rfl) ?_
        refine lv_iconst (v := 1) hx hb dX0_learnWon_105 (by decide) ?_
        refine va_put (D := D) (ci := 0) (v := .int 1) (ty := .boolean) (C := RX0) (T := TX0) (N := 6) hx hb hts (by decide +kernel) tyX0 tyX0_ok nmX0 hown hK hP hD hS 0 rfl rfl 3 (by decide) (hts (.fieldLink RX0 23 "LastLetter$Games" "isWonKnown" "Z") (by decide +kernel)) (fun _ h9 => h9) rfl (by decide +kernel) rfl rfl (Nat.le_of_ble_eq_true rfl) dX0_learnWon_106 (fun H locs hP hD hS => ?_)
        have hP : va_P D vwCl [(o, .inr (0, [.ref q_14, .ref gm_depths, .ref gm_gains, .int 1, .int gm_isDepthKnown, .int gm_isGainKnown])), (gm_won, .inl (cI, ln, .inl fwn)), (t, .inr (8, [.ref k_name, .ref k_worth, .ref k_times, .ref k_first, .ref k_second, .ref k_beforeLast, .ref k_last, .ref k_errandOf, .ref k_errandAfter, .ref k_sound, .ref k_followers, .ref k_leaders, .int (nI w), .int k_errands, .int k_alikes, .int k_law])), (k_leaders, .inl (cI, 24, .inl f_leaders)), (q_14, .inl (cI, sN, .inl gwn))] H := hP
        have hD : va_D A [(o, .inr (0, [.ref q_14, .ref gm_depths, .ref gm_gains, .int 1, .int gm_isDepthKnown, .int gm_isGainKnown])), (gm_won, .inl (cI, ln, .inl fwn)), (t, .inr (8, [.ref k_name, .ref k_worth, .ref k_times, .ref k_first, .ref k_second, .ref k_beforeLast, .ref k_last, .ref k_errandOf, .ref k_errandAfter, .ref k_sound, .ref k_followers, .ref k_leaders, .int (nI w), .int k_errands, .int k_alikes, .int k_law])), (k_leaders, .inl (cI, 24, .inl f_leaders)), (q_14, .inl (cI, sN, .inl gwn))] := hD
        have hP9 := hP.sub (ws' := [(o, .inr (0, [.ref q_14, .ref gm_depths, .ref gm_gains, .int 1, .int gm_isDepthKnown, .int gm_isGainKnown])), (q_14, .inl (cI, sN, .inl gwn)), (t, .inr (8, [.ref k_name, .ref k_worth, .ref k_times, .ref k_first, .ref k_second, .ref k_beforeLast, .ref k_last, .ref k_errandOf, .ref k_errandAfter, .ref k_sound, .ref k_followers, .ref k_leaders, .int (nI w), .int k_errands, .int k_alikes, .int k_law])), (k_leaders, .inl (cI, 24, .inl f_leaders))]) [0, 4, 2, 3] rfl
        have hD9 := hD.sub (ws' := [(o, .inr (0, [.ref q_14, .ref gm_depths, .ref gm_gains, .int 1, .int gm_isDepthKnown, .int gm_isGainKnown])), (q_14, .inl (cI, sN, .inl gwn)), (t, .inr (8, [.ref k_name, .ref k_worth, .ref k_times, .ref k_first, .ref k_second, .ref k_beforeLast, .ref k_last, .ref k_errandOf, .ref k_errandAfter, .ref k_sound, .ref k_followers, .ref k_leaders, .int (nI w), .int k_errands, .int k_alikes, .int k_law])), (k_leaders, .inl (cI, 24, .inl f_leaders))]) [0, 4, 2, 3] (by decide) rfl
        refine W.widen (k := 1) (n := gW) (show 1 ≤ 1 by omega) (show 0 + sN ≤ gW by omega) ?_
        exact W.vret hx hb hr (fun tz htz hWz => ⟨⟨[(o, .inr (0, [.ref q_14, .ref gm_depths, .ref gm_gains, .int 1, .int gm_isDepthKnown, .int gm_isGainKnown])), (q_14, .inl (cI, sN, .inl gwn)), (t, .inr (8, [.ref k_name, .ref k_worth, .ref k_times, .ref k_first, .ref k_second, .ref k_beforeLast, .ref k_last, .ref k_errandOf, .ref k_errandAfter, .ref k_sound, .ref k_followers, .ref k_leaders, .int (nI w), .int k_errands, .int k_alikes, .int k_law])), (k_leaders, .inl (cI, 24, .inl f_leaders))], rfl, ⟨1, q_14, sN, gwn, rfl, (by omega), (by omega), (Or.inr ⟨by omega, rfl⟩), (by decide)⟩, by rw [htz]; exact hP9, va_K.moved hWz.alike hK, hD9⟩, hS.F htz⟩) hS.2.2 dX0_learnWon_109
      · have dc_16 : ¬ sN ≤ st := fun h => c_16 ((nI_leI (a := sN) (b := st) (by omega) (by omega)).mpr h)
        refine lv_iconst (v := 0) hx hb dX0_learnWon_38 (by decide) ?_
        refine lv_istore (lv' := [(4, .int 0), (3, .int (nI st)), (2, .int (nI sN)), (0, .ref o), (1, .ref t)]) hx hb dX0_learnWon_39 hl (by decide) rfl (fun ls hl => ?_)
        refine lv_iconst (v := 0) hx hb dX0_learnWon_41 (by decide) ?_
        refine lv_istore (lv' := [(5, .int 0), (4, .int 0), (3, .int (nI st)), (2, .int (nI sN)), (0, .ref o), (1, .ref t)]) hx hb dX0_learnWon_42 hl (by decide) rfl (fun ls hl => ?_)
        refine xb_wh (fun (n9 : Nat) H locs ls => ∃ k : Nat, ∃ bits : Int32, (w - k) = n9 ∧ va_P D vwCl [(o, .inr (0, [.ref q_14, .ref gm_depths, .ref gm_gains, .int kn, .int gm_isDepthKnown, .int gm_isGainKnown])), (gm_won, .inl (cI, ln, .inl fwn)), (t, .inr (8, [.ref k_name, .ref k_worth, .ref k_times, .ref k_first, .ref k_second, .ref k_beforeLast, .ref k_last, .ref k_errandOf, .ref k_errandAfter, .ref k_sound, .ref k_followers, .ref k_leaders, .int (nI w), .int k_errands, .int k_alikes, .int k_law])), (k_leaders, .inl (cI, 24, .inl f_leaders)), (q_14, .inl (cI, sN, .inl gwn))] H ∧ va_D A [(o, .inr (0, [.ref q_14, .ref gm_depths, .ref gm_gains, .int kn, .int gm_isDepthKnown, .int gm_isGainKnown])), (gm_won, .inl (cI, ln, .inl fwn)), (t, .inr (8, [.ref k_name, .ref k_worth, .ref k_times, .ref k_first, .ref k_second, .ref k_beforeLast, .ref k_last, .ref k_errandOf, .ref k_errandAfter, .ref k_sound, .ref k_followers, .ref k_leaders, .int (nI w), .int k_errands, .int k_alikes, .int k_law])), (k_leaders, .inl (cI, 24, .inl f_leaders)), (q_14, .inl (cI, sN, .inl gwn))] ∧ va_S A s.heap H locs ∧ lv_has ls 6 [(5, .int (nI k)), (4, .int bits), (3, .int (nI st)), (2, .int (nI sN)), (0, .ref o), (1, .ref t)] ∧ (k ≤ w)) ⟨0, 0, rfl, hP, hD, hS, lv_sub hl [0, 1, 2, 3, 4, 5] rfl, (by first | assumption | omega)⟩ (fun n9 H locs ls hI kk_44 => ?_)
        obtain ⟨k, bits, hn_44, hP, hD, hS, hl, hF_h_17⟩ := hI
        refine lv_iload hx hb dX0_learnWon_44 (lv_at hl 0 rfl) ?_
        refine lv_aload_n hx hb dX0_learnWon_46 rfl (lv_at hl 5 rfl) ?_
        refine va_getN (D := D) (ci := 8) (v := .int (nI w)) (C := RX8) (T := TX8) (N := 16) hx hb hts (by decide +kernel) hown hK hP 2 rfl rfl 12 (by decide) (va_Nw.use rfl (hN.1 (RX0, 50, RX8, "words", "I", RX10) (by decide +kernel))) (fun _ h9 => h9) rfl dX0_learnWon_47 ?_
        refine lv_icmp_ge (tgt := 90) hx hb dX0_learnWon_50 (by decide) (fun c_18 => ?_) (fun c_18 => ?_)
        · have dc_18 : w ≤ k := (nI_leI (a := w) (b := k) (by omega) (by omega)).mp c_18
          refine lv_aload_n hx hb dX0_learnWon_90 rfl (lv_at hl 4 rfl) ?_
          refine va_get (D := D) (ci := 0) (v := .ref q_14) (C := RX0) (T := TX0) (N := 6) hx hb hts (by decide +kernel) hown hK hP 0 rfl rfl 0 (by decide) (hts (.fieldLink RX0 9 "LastLetter$Games" "won" "[I") (by decide +kernel)) (fun _ h9 => h9) rfl dX0_learnWon_91 ?_
          refine lv_iload_n hx hb dX0_learnWon_94 rfl (lv_at hl 2 rfl) ?_
          refine lv_iload hx hb dX0_learnWon_95 (lv_at hl 1 rfl) ?_
          refine va_iast hx hb hK hP hD hS 4 1 rfl rfl (vp_in_nI (by omega) (by omega)) dX0_learnWon_97 (fun H locs hP hD hS => ?_)
          have hP : va_P D vwCl [(o, .inr (0, [.ref q_14, .ref gm_depths, .ref gm_gains, .int kn, .int gm_isDepthKnown, .int gm_isGainKnown])), (gm_won, .inl (cI, ln, .inl fwn)), (t, .inr (8, [.ref k_name, .ref k_worth, .ref k_times, .ref k_first, .ref k_second, .ref k_beforeLast, .ref k_last, .ref k_errandOf, .ref k_errandAfter, .ref k_sound, .ref k_followers, .ref k_leaders, .int (nI w), .int k_errands, .int k_alikes, .int k_law])), (k_leaders, .inl (cI, 24, .inl f_leaders)), (q_14, .inl (cI, sN, .inl (upd gwn (Int32.toNatClampNeg (nI st)) bits)))] H := hP
          have hD : va_D A [(o, .inr (0, [.ref q_14, .ref gm_depths, .ref gm_gains, .int kn, .int gm_isDepthKnown, .int gm_isGainKnown])), (gm_won, .inl (cI, ln, .inl fwn)), (t, .inr (8, [.ref k_name, .ref k_worth, .ref k_times, .ref k_first, .ref k_second, .ref k_beforeLast, .ref k_last, .ref k_errandOf, .ref k_errandAfter, .ref k_sound, .ref k_followers, .ref k_leaders, .int (nI w), .int k_errands, .int k_alikes, .int k_law])), (k_leaders, .inl (cI, 24, .inl f_leaders)), (q_14, .inl (cI, sN, .inl (upd gwn (Int32.toNatClampNeg (nI st)) bits)))] := hD
          generalize eg_19 : upd gwn (Int32.toNatClampNeg (nI st)) bits = g_19 at hP hD
          refine lv_iinc (v := nI (st + 1)) (lv' := [(3, .int (nI (st + 1))), (5, .int (nI k)), (4, .int bits), (2, .int (nI sN)), (0, .ref o), (1, .ref t)]) hx hb dX0_learnWon_98 hl (k := 2) rfl (nI_1 st) (by decide) rfl (fun ls hl => ?_)
          refine lv_goto (tgt := 33) hx hb dX0_learnWon_101 (by decide) ?_
          exact kk_33 _ _ _ _ (by rw [← hn_33]; omega) ⟨(st + 1), g_19, rfl, hP, hD, hS, lv_sub hl [0, 3, 4, 5] rfl, (by first | assumption | omega)⟩
        · have dc_18 : ¬ w ≤ k := fun h => c_18 ((nI_leI (a := w) (b := k) (by omega) (by omega)).mpr h)
          refine lv_iload_n hx hb dX0_learnWon_53 rfl (lv_at hl 2 rfl) ?_
          refine lv_iload hx hb dX0_learnWon_54 (lv_at hl 0 rfl) ?_
          refine xCi (wr := [(o, .inr (0, [.ref q_14, .ref gm_depths, .ref gm_gains, .int kn, .int gm_isDepthKnown, .int gm_isGainKnown])), (gm_won, .inl (cI, ln, .inl fwn)), (t, .inr (8, [.ref k_name, .ref k_worth, .ref k_times, .ref k_first, .ref k_second, .ref k_beforeLast, .ref k_last, .ref k_errandOf, .ref k_errandAfter, .ref k_sound, .ref k_followers, .ref k_leaders, .int (nI w), .int k_errands, .int k_alikes, .int k_law])), (k_leaders, .inl (cI, 24, .inl f_leaders)), (q_14, .inl (cI, sN, .inl gwn))]) (win := []) hP hD hS hA [] [0, 1, 2, 3, 4] rfl rfl (by decide) (by decide) (va_runSN (As := [.int (nI st), .int (nI k)]) (rest := []) ⟨hx, hb, hml, hown, hts⟩ (c_X10_isIn_n l D cB cI cJ cS cZ cO H.size st k (by first | assumption | omega | decide) (by first | assumption | omega | decide)) ⟨va_cnB 2 hts gX0_learnWon_X10_isIn_n43 rfl rfl rfl (hN.2.1 (RX0, 43, yX10_isIn, RX10) (by decide +kernel)) (hts (.initialized RX10) (by decide +kernel)) (by decide +kernel) ⟨Nat.le_of_ble_eq_true rfl, Nat.le_of_ble_eq_true rfl⟩, hts (.static yX10_isIn) (by decide +kernel), trivial⟩ (xPreS (win := []) hN hK hP hD [] (by decide) rfl) rfl rfl hl.1 rfl (lv_room (Nat.le_of_ble_eq_true rfl)) dX0_learnWon_56 ⟨show 1 + 0 ≤ 1 by omega, show 0 + sN + 0 ≤ gW by omega⟩) (fun r_20 w0 H locs hw hP hD hS => ?_)
          obtain ⟨rfl, hf_21⟩ := hw
          have hP : va_P D vwCl [(o, .inr (0, [.ref q_14, .ref gm_depths, .ref gm_gains, .int kn, .int gm_isDepthKnown, .int gm_isGainKnown])), (gm_won, .inl (cI, ln, .inl fwn)), (t, .inr (8, [.ref k_name, .ref k_worth, .ref k_times, .ref k_first, .ref k_second, .ref k_beforeLast, .ref k_last, .ref k_errandOf, .ref k_errandAfter, .ref k_sound, .ref k_followers, .ref k_leaders, .int (nI w), .int k_errands, .int k_alikes, .int k_law])), (k_leaders, .inl (cI, 24, .inl f_leaders)), (q_14, .inl (cI, sN, .inl gwn))] H := hP
          have hD : va_D A [(o, .inr (0, [.ref q_14, .ref gm_depths, .ref gm_gains, .int kn, .int gm_isDepthKnown, .int gm_isGainKnown])), (gm_won, .inl (cI, ln, .inl fwn)), (t, .inr (8, [.ref k_name, .ref k_worth, .ref k_times, .ref k_first, .ref k_second, .ref k_beforeLast, .ref k_last, .ref k_errandOf, .ref k_errandAfter, .ref k_sound, .ref k_followers, .ref k_leaders, .int (nI w), .int k_errands, .int k_alikes, .int k_law])), (k_leaders, .inl (cI, 24, .inl f_leaders)), (q_14, .inl (cI, sN, .inl gwn))] := hD
          refine lv_if_eq (tgt := 84) hx hb dX0_learnWon_59 (by decide) (fun c_22 => ?_) (fun c_22 => ?_)
          · refine lv_iinc (v := nI (k + 1)) (lv' := [(5, .int (nI (k + 1))), (4, .int bits), (3, .int (nI st)), (2, .int (nI sN)), (0, .ref o), (1, .ref t)]) hx hb dX0_learnWon_84 hl (k := 0) rfl (nI_1 k) (by decide) rfl (fun ls hl => ?_)
            refine lv_goto (tgt := 44) hx hb dX0_learnWon_87 (by decide) ?_
            exact kk_44 _ _ _ _ (by rw [← hn_44]; omega) ⟨(k + 1), bits, rfl, hP, hD, hS, lv_sub hl [0, 1, 2, 3, 4, 5] rfl, (by first | assumption | omega)⟩
          · refine lv_aload_n hx hb dX0_learnWon_62 rfl (lv_at hl 4 rfl) ?_
            refine lv_iload_n hx hb dX0_learnWon_63 rfl (lv_at hl 2 rfl) ?_
            refine lv_iload hx hb dX0_learnWon_64 (lv_at hl 0 rfl) ?_
            refine xCi (wr := [(gm_won, .inl (cI, ln, .inl fwn)), (t, .inr (8, [.ref k_name, .ref k_worth, .ref k_times, .ref k_first, .ref k_second, .ref k_beforeLast, .ref k_last, .ref k_errandOf, .ref k_errandAfter, .ref k_sound, .ref k_followers, .ref k_leaders, .int (nI w), .int k_errands, .int k_alikes, .int k_law])), (k_leaders, .inl (cI, 24, .inl f_leaders))]) (win := [(o, .inr (0, [.ref q_14, .ref gm_depths, .ref gm_gains, .int kn, .int gm_isDepthKnown, .int gm_isGainKnown])), (q_14, .inl (cI, sN, .inl gwn))]) hP hD hS hA [0, 4] [1, 2, 3] rfl rfl (by decide) (by decide) (va_runV (As := [.int (nI st), .int (nI k)]) (rest := []) ⟨hx, hb, hml, hown, hts⟩ (c_X0_isLostBehind l D cB cI cJ cS cZ cO H.size o st k q_14 gm_depths gm_gains kn gm_isDepthKnown gm_isGainKnown sN gwn sN w (by first | assumption | omega | decide) (by first | assumption | omega | decide) (by first | assumption | omega | decide) (by first | assumption | omega | decide) (by first | assumption | omega | decide) (by first | assumption | omega | decide) (by first | assumption | omega | decide) (by first | assumption | omega | decide)) (cwV 2 hts gX0_learnWon_X0_isLostBehind rfl rfl rfl (by decide +kernel) ⟨Nat.le_of_ble_eq_true rfl, Nat.le_of_ble_eq_true rfl⟩) (xPreV (win := [(o, .inr (0, [.ref q_14, .ref gm_depths, .ref gm_gains, .int kn, .int gm_isDepthKnown, .int gm_isGainKnown])), (q_14, .inl (cI, sN, .inl gwn))]) hN hK hP hD [0, 4] (by decide) rfl 0 0 rfl rfl rfl) rfl rfl hl.1 rfl (lv_room (Nat.le_of_ble_eq_true rfl)) dX0_learnWon_66 ⟨show 1 + 0 ≤ 1 by omega, show 0 + sN + 0 ≤ gW by omega⟩) (fun r_23 w0 H locs hw hP hD hS => ?_)
            obtain ⟨rfl, hf_24⟩ := hw
            have hP : va_P D vwCl [(gm_won, .inl (cI, ln, .inl fwn)), (t, .inr (8, [.ref k_name, .ref k_worth, .ref k_times, .ref k_first, .ref k_second, .ref k_beforeLast, .ref k_last, .ref k_errandOf, .ref k_errandAfter, .ref k_sound, .ref k_followers, .ref k_leaders, .int (nI w), .int k_errands, .int k_alikes, .int k_law])), (k_leaders, .inl (cI, 24, .inl f_leaders)), (o, .inr (0, [.ref q_14, .ref gm_depths, .ref gm_gains, .int kn, .int gm_isDepthKnown, .int gm_isGainKnown])), (q_14, .inl (cI, sN, .inl gwn))] H := hP
            have hD : va_D A [(gm_won, .inl (cI, ln, .inl fwn)), (t, .inr (8, [.ref k_name, .ref k_worth, .ref k_times, .ref k_first, .ref k_second, .ref k_beforeLast, .ref k_last, .ref k_errandOf, .ref k_errandAfter, .ref k_sound, .ref k_followers, .ref k_leaders, .int (nI w), .int k_errands, .int k_alikes, .int k_law])), (k_leaders, .inl (cI, 24, .inl f_leaders)), (o, .inr (0, [.ref q_14, .ref gm_depths, .ref gm_gains, .int kn, .int gm_isDepthKnown, .int gm_isGainKnown])), (q_14, .inl (cI, sN, .inl gwn))] := hD
            refine lv_if_eq (tgt := 84) hx hb dX0_learnWon_69 (by decide) (fun c_25 => ?_) (fun c_25 => ?_)
            · refine lv_iinc (v := nI (k + 1)) (lv' := [(5, .int (nI (k + 1))), (4, .int bits), (3, .int (nI st)), (2, .int (nI sN)), (0, .ref o), (1, .ref t)]) hx hb dX0_learnWon_84 hl (k := 0) rfl (nI_1 k) (by decide) rfl (fun ls hl => ?_)
              refine lv_goto (tgt := 44) hx hb dX0_learnWon_87 (by decide) ?_
              exact kk_44 _ _ _ _ (by rw [← hn_44]; omega) ⟨(k + 1), bits, rfl, hP.sub [3, 0, 1, 2, 4] rfl, hD.sub [3, 0, 1, 2, 4] (by decide) rfl, hS, lv_sub hl [0, 1, 2, 3, 4, 5] rfl, (by first | assumption | omega)⟩
            · refine lv_iload hx hb dX0_learnWon_72 (lv_at hl 1 rfl) ?_
              refine lv_aload_n hx hb dX0_learnWon_74 rfl (lv_at hl 5 rfl) ?_
              refine va_getN (D := D) (ci := 8) (v := .ref k_leaders) (C := RX8) (T := TX8) (N := 16) hx hb hts (by decide +kernel) hown hK hP 1 rfl rfl 11 (by decide) (va_Nw.use rfl (hN.1 (RX0, 67, RX8, "leaders", "[I", RX10) (by decide +kernel))) (fun _ h9 => h9) rfl dX0_learnWon_75 ?_
              refine lv_iload hx hb dX0_learnWon_78 (lv_at hl 0 rfl) ?_
              refine va_iald hx hb hK hP 2 1 rfl rfl (vp_in_nI (by omega) (by omega)) dX0_learnWon_80 ?_
              refine xb_top (y := f_leaders k) (by rw [nI_clamp (by omega)]) ?_
              refine lv_ior hx hb dX0_learnWon_81 ?_
              refine lv_istore (lv' := [(4, .int (bits ||| (f_leaders k))), (5, .int (nI k)), (3, .int (nI st)), (2, .int (nI sN)), (0, .ref o), (1, .ref t)]) hx hb dX0_learnWon_82 hl (by decide) rfl (fun ls hl => ?_)
              refine lv_iinc (v := nI (k + 1)) (lv' := [(5, .int (nI (k + 1))), (4, .int (bits ||| (f_leaders k))), (3, .int (nI st)), (2, .int (nI sN)), (0, .ref o), (1, .ref t)]) hx hb dX0_learnWon_84 hl (k := 1) rfl (nI_1 k) (by decide) rfl (fun ls hl => ?_)
              refine lv_goto (tgt := 44) hx hb dX0_learnWon_87 (by decide) ?_
              exact kk_44 _ _ _ _ (by rw [← hn_44]; omega) ⟨(k + 1), (bits ||| (f_leaders k)), rfl, hP.sub [3, 0, 1, 2, 4] rfl, hD.sub [3, 0, 1, 2, 4] (by decide) rfl, hS, lv_sub hl [0, 1, 2, 3, 4, 5] rfl, (by first | assumption | omega)⟩
  · have hP9 := hP.sub (ws' := [(o, .inr (0, [.ref gm_won, .ref gm_depths, .ref gm_gains, .int kn, .int gm_isDepthKnown, .int gm_isGainKnown])), (gm_won, .inl (cI, ln, .inl fwn)), (t, .inr (8, [.ref k_name, .ref k_worth, .ref k_times, .ref k_first, .ref k_second, .ref k_beforeLast, .ref k_last, .ref k_errandOf, .ref k_errandAfter, .ref k_sound, .ref k_followers, .ref k_leaders, .int (nI w), .int k_errands, .int k_alikes, .int k_law])), (k_leaders, .inl (cI, 24, .inl f_leaders))]) [0, 1, 2, 3] rfl
    have hD9 := hD.sub (ws' := [(o, .inr (0, [.ref gm_won, .ref gm_depths, .ref gm_gains, .int kn, .int gm_isDepthKnown, .int gm_isGainKnown])), (gm_won, .inl (cI, ln, .inl fwn)), (t, .inr (8, [.ref k_name, .ref k_worth, .ref k_times, .ref k_first, .ref k_second, .ref k_beforeLast, .ref k_last, .ref k_errandOf, .ref k_errandAfter, .ref k_sound, .ref k_followers, .ref k_leaders, .int (nI w), .int k_errands, .int k_alikes, .int k_law])), (k_leaders, .inl (cI, 24, .inl f_leaders))]) [0, 1, 2, 3] (by decide) rfl
    refine W.widen (k := 1) (n := gW) (show 0 ≤ 1 by omega) (show 0 ≤ gW by omega) ?_
    exact W.vret hx hb hr (fun tz htz hWz => ⟨⟨[(o, .inr (0, [.ref gm_won, .ref gm_depths, .ref gm_gains, .int kn, .int gm_isDepthKnown, .int gm_isGainKnown])), (gm_won, .inl (cI, ln, .inl fwn)), (t, .inr (8, [.ref k_name, .ref k_worth, .ref k_times, .ref k_first, .ref k_second, .ref k_beforeLast, .ref k_last, .ref k_errandOf, .ref k_errandAfter, .ref k_sound, .ref k_followers, .ref k_leaders, .int (nI w), .int k_errands, .int k_alikes, .int k_law])), (k_leaders, .inl (cI, 24, .inl f_leaders))], rfl, ⟨kn, gm_won, ln, fwn, rfl, (hkn.resolve_left c_1), hln, (Or.inl rfl), c_1⟩, by rw [htz]; exact hP9, va_K.moved hWz.alike hK, hD9⟩, hS.F htz⟩) hS.2.2 dX0_learnWon_14

set_option maxHeartbeats 4000000 in
set_option maxRecDepth 100000 in
theorem c_X0_endless (l : Launch) (D : va_G) (cB cI cJ cS cZ cO : ClassId) (sz : Nat) (o : Nat) (t : Nat) (x : Int32) (k_name : Nat) (k_worth : Nat) (k_times : Nat) (k_first : Nat) (k_second : Nat) (k_beforeLast : Nat) (k_last : Nat) (k_errandOf : Nat) (k_errandAfter : Nat) (k_sound : Nat) (k_followers : Nat) (k_leaders : Nat) (w : Nat) (k_errands : Int32) (k_alikes : Int32) (k_law : Int32) (f_followers : Nat → Int32) (hw : w ≤ 24) : Met l yX0_endless wsX0_endless ({ frames := 1, cells := 0, slots := 0, locals := 21 }) (xPre D (tyL cB cI cJ cS cZ cO) [(t, .inr (8, [.ref k_name, .ref k_worth, .ref k_times, .ref k_first, .ref k_second, .ref k_beforeLast, .ref k_last, .ref k_errandOf, .ref k_errandAfter, .ref k_sound, .ref k_followers, .ref k_leaders, .int (nI w), .int k_errands, .int k_alikes, .int k_law])), (k_followers, .inl (cI, 24, .inl f_followers))] sz [.ref o, .ref t, .int x]) (xQi D (tyL cB cI cJ cS cZ cO) (va_A [(t, .inr (8, [.ref k_name, .ref k_worth, .ref k_times, .ref k_first, .ref k_second, .ref k_beforeLast, .ref k_last, .ref k_errandOf, .ref k_errandAfter, .ref k_sound, .ref k_followers, .ref k_leaders, .int (nI w), .int k_errands, .int k_alikes, .int k_law])), (k_followers, .inl (cI, 24, .inl f_followers))] sz) (fun (r : Int32) (u : va_W) => u = [(t, .inr (8, [.ref k_name, .ref k_worth, .ref k_times, .ref k_first, .ref k_second, .ref k_beforeLast, .ref k_last, .ref k_errandOf, .ref k_errandAfter, .ref k_sound, .ref k_followers, .ref k_leaders, .int (nI w), .int k_errands, .int k_alikes, .int k_law])), (k_followers, .inl (cI, 24, .inl f_followers))])) 0 0 (va_A [(t, .inr (8, [.ref k_name, .ref k_worth, .ref k_times, .ref k_first, .ref k_second, .ref k_beforeLast, .ref k_last, .ref k_errandOf, .ref k_errandAfter, .ref k_sound, .ref k_followers, .ref k_leaders, .int (nI w), .int k_errands, .int k_alikes, .int k_law])), (k_followers, .inl (cI, 24, .inl f_followers))] sz) := by
  refine Met.ofW (cc := cX0_endless) (maxL := 7) (ret := (some .int)) (by decide) rfl ?_
  intro p e s m args below meth c s₁ B hml hv
  obtain ⟨rfl, hsz, hP, hK, hD0, hN⟩ := hv
  have hx := B.exec
  have hb := B.bytes
  have hr := B.returns
  have hts := atoms_spec (ws := wsX0_endless) B.pre
  have hown : s.vm.findClass RX0 = some m.cls := findClass_of_methodNamed B.named
  have hlocks := B.notSynchronized
  subst hsz
  have hD := hD0.self (sz := s.heap.size)
  generalize hAe : va_A [(t, .inr (8, [.ref k_name, .ref k_worth, .ref k_times, .ref k_first, .ref k_second, .ref k_beforeLast, .ref k_last, .ref k_errandOf, .ref k_errandAfter, .ref k_sound, .ref k_followers, .ref k_leaders, .int (nI w), .int k_errands, .int k_alikes, .int k_law])), (k_followers, .inl (cI, 24, .inl f_followers))] s.heap.size = A at hD ⊢
  have hA : ∀ q : Nat, s.heap.size ≤ q → A q := fun q h => by rw [← hAe]; exact Or.inr h
  have hS : va_S A s.heap s.heap [] := va_S.rf
  have hP : va_P D vwCl [(t, .inr (8, [.ref k_name, .ref k_worth, .ref k_times, .ref k_first, .ref k_second, .ref k_beforeLast, .ref k_last, .ref k_errandOf, .ref k_errandAfter, .ref k_sound, .ref k_followers, .ref k_leaders, .int (nI w), .int k_errands, .int k_alikes, .int k_law])), (k_followers, .inl (cI, 24, .inl f_followers))] s.heap := hP
  have hl := lv_entry ([.ref o, .ref t, .int x]) (n := 7) (Nat.le_of_ble_eq_true rfl)
  rw [lg_entry_eq]
  generalize (lg_sl ([.ref o, .ref t, .int x]) ++ List.replicate (7 - (lg_sl ([.ref o, .ref t, .int x])).length) Slot.unset).toArray = ls at hl ⊢
  have hl : lv_has ls 7 [(0, .ref o), (1, .ref t), (2, .int x)] := hl
  refine lv_iconst (v := 0) hx hb dX0_endless_0 (by decide) ?_
  refine lv_istore_n (lv' := [(3, .int 0), (0, .ref o), (1, .ref t), (2, .int x)]) hx hb dX0_endless_1 rfl hl (by decide) rfl (fun ls hl => ?_)
  refine lv_iconst (v := 0) hx hb dX0_endless_2 (by decide) ?_
  refine lv_istore (lv' := [(4, .int 0), (3, .int 0), (0, .ref o), (1, .ref t), (2, .int x)]) hx hb dX0_endless_3 hl (by decide) rfl (fun ls hl => ?_)
  refine lv_iconst (v := 0) hx hb dX0_endless_5 (by decide) ?_
  refine lv_istore (lv' := [(5, .int 0), (4, .int 0), (3, .int 0), (0, .ref o), (1, .ref t), (2, .int x)]) hx hb dX0_endless_6 hl (by decide) rfl (fun ls hl => ?_)
  refine xb_wh (fun (n9 : Nat) H locs ls => ∃ i : Nat, ∃ wi1 : Int32, ∃ lo1 : Int32, (w - i) = n9 ∧ va_P D vwCl [(t, .inr (8, [.ref k_name, .ref k_worth, .ref k_times, .ref k_first, .ref k_second, .ref k_beforeLast, .ref k_last, .ref k_errandOf, .ref k_errandAfter, .ref k_sound, .ref k_followers, .ref k_leaders, .int (nI w), .int k_errands, .int k_alikes, .int k_law])), (k_followers, .inl (cI, 24, .inl f_followers))] H ∧ va_D A [(t, .inr (8, [.ref k_name, .ref k_worth, .ref k_times, .ref k_first, .ref k_second, .ref k_beforeLast, .ref k_last, .ref k_errandOf, .ref k_errandAfter, .ref k_sound, .ref k_followers, .ref k_leaders, .int (nI w), .int k_errands, .int k_alikes, .int k_law])), (k_followers, .inl (cI, 24, .inl f_followers))] ∧ va_S A s.heap H locs ∧ lv_has ls 7 [(5, .int (nI i)), (4, .int lo1), (3, .int wi1), (0, .ref o), (1, .ref t), (2, .int x)] ∧ (i ≤ w)) ⟨0, 0, 0, rfl, hP, hD, hS, lv_sub hl [0, 1, 2, 3, 4, 5] rfl, (by first | assumption | omega)⟩ (fun n9 H locs ls hI kk_8 => ?_)
  obtain ⟨i, wi1, lo1, hn_8, hP, hD, hS, hl, hF_h_1⟩ := hI
  refine lv_iload hx hb dX0_endless_8 (lv_at hl 0 rfl) ?_
  refine lv_aload_n hx hb dX0_endless_10 rfl (lv_at hl 4 rfl) ?_
  refine va_getN (D := D) (ci := 8) (v := .int (nI w)) (C := RX8) (T := TX8) (N := 16) hx hb hts (by decide +kernel) hown hK hP 0 rfl rfl 12 (by decide) (va_Nw.use rfl (hN.1 (RX0, 50, RX8, "words", "I", RX10) (by decide +kernel))) (fun _ h9 => h9) rfl dX0_endless_11 ?_
  refine lv_icmp_ge (tgt := 87) hx hb dX0_endless_14 (by decide) (fun c_2 => ?_) (fun c_2 => ?_)
  · have dc_2 : w ≤ i := (nI_leI (a := w) (b := i) (by omega) (by omega)).mp c_2
    refine lv_iload_n hx hb dX0_endless_87 rfl (lv_at hl 2 rfl) ?_
    refine lv_iload_n hx hb dX0_endless_88 rfl (lv_at hl 5 rfl) ?_
    refine xCi (wr := [(t, .inr (8, [.ref k_name, .ref k_worth, .ref k_times, .ref k_first, .ref k_second, .ref k_beforeLast, .ref k_last, .ref k_errandOf, .ref k_errandAfter, .ref k_sound, .ref k_followers, .ref k_leaders, .int (nI w), .int k_errands, .int k_alikes, .int k_law])), (k_followers, .inl (cI, 24, .inl f_followers))]) (win := []) hP hD hS hA [] [0, 1] rfl rfl (by decide) (by decide) (va_runSN (As := [.int wi1, .int x]) (rest := []) ⟨hx, hb, hml, hown, hts⟩ (c_X10_isIn l D cB cI cJ cS cZ cO H.size wi1 x ) ⟨va_cnB 2 hts gX0_endless_X10_isIn_n43 rfl rfl rfl (hN.2.1 (RX0, 43, yX10_isIn, RX10) (by decide +kernel)) (hts (.initialized RX10) (by decide +kernel)) (by decide +kernel) ⟨Nat.le_of_ble_eq_true rfl, Nat.le_of_ble_eq_true rfl⟩, hts (.static yX10_isIn) (by decide +kernel), trivial⟩ (xPreS (win := []) hN hK hP hD [] (by decide) rfl) rfl rfl hl.1 rfl (lv_room (Nat.le_of_ble_eq_true rfl)) dX0_endless_89 ⟨Nat.le_of_ble_eq_true rfl, Nat.le_of_ble_eq_true rfl⟩) (fun r_3 w0 H locs hw hP hD hS => ?_)
    obtain ⟨rfl, hf_4⟩ := hw
    have hP : va_P D vwCl [(t, .inr (8, [.ref k_name, .ref k_worth, .ref k_times, .ref k_first, .ref k_second, .ref k_beforeLast, .ref k_last, .ref k_errandOf, .ref k_errandAfter, .ref k_sound, .ref k_followers, .ref k_leaders, .int (nI w), .int k_errands, .int k_alikes, .int k_law])), (k_followers, .inl (cI, 24, .inl f_followers))] H := hP
    have hD : va_D A [(t, .inr (8, [.ref k_name, .ref k_worth, .ref k_times, .ref k_first, .ref k_second, .ref k_beforeLast, .ref k_last, .ref k_errandOf, .ref k_errandAfter, .ref k_sound, .ref k_followers, .ref k_leaders, .int (nI w), .int k_errands, .int k_alikes, .int k_law])), (k_followers, .inl (cI, 24, .inl f_followers))] := hD
    refine lv_if_eq (tgt := 97) hx hb dX0_endless_92 (by decide) (fun c_5 => ?_) (fun c_5 => ?_)
    · refine lv_iload hx hb dX0_endless_97 (lv_at hl 1 rfl) ?_
      refine lv_iload_n hx hb dX0_endless_99 rfl (lv_at hl 5 rfl) ?_
      refine xCi (wr := [(t, .inr (8, [.ref k_name, .ref k_worth, .ref k_times, .ref k_first, .ref k_second, .ref k_beforeLast, .ref k_last, .ref k_errandOf, .ref k_errandAfter, .ref k_sound, .ref k_followers, .ref k_leaders, .int (nI w), .int k_errands, .int k_alikes, .int k_law])), (k_followers, .inl (cI, 24, .inl f_followers))]) (win := []) hP hD hS hA [] [0, 1] rfl rfl (by decide) (by decide) (va_runSN (As := [.int lo1, .int x]) (rest := []) ⟨hx, hb, hml, hown, hts⟩ (c_X10_isIn l D cB cI cJ cS cZ cO H.size lo1 x ) ⟨va_cnB 2 hts gX0_endless_X10_isIn_n43 rfl rfl rfl (hN.2.1 (RX0, 43, yX10_isIn, RX10) (by decide +kernel)) (hts (.initialized RX10) (by decide +kernel)) (by decide +kernel) ⟨Nat.le_of_ble_eq_true rfl, Nat.le_of_ble_eq_true rfl⟩, hts (.static yX10_isIn) (by decide +kernel), trivial⟩ (xPreS (win := []) hN hK hP hD [] (by decide) rfl) rfl rfl hl.1 rfl (lv_room (Nat.le_of_ble_eq_true rfl)) dX0_endless_100 ⟨Nat.le_of_ble_eq_true rfl, Nat.le_of_ble_eq_true rfl⟩) (fun r_6 w0 H locs hw hP hD hS => ?_)
      obtain ⟨rfl, hf_7⟩ := hw
      have hP : va_P D vwCl [(t, .inr (8, [.ref k_name, .ref k_worth, .ref k_times, .ref k_first, .ref k_second, .ref k_beforeLast, .ref k_last, .ref k_errandOf, .ref k_errandAfter, .ref k_sound, .ref k_followers, .ref k_leaders, .int (nI w), .int k_errands, .int k_alikes, .int k_law])), (k_followers, .inl (cI, 24, .inl f_followers))] H := hP
      have hD : va_D A [(t, .inr (8, [.ref k_name, .ref k_worth, .ref k_times, .ref k_first, .ref k_second, .ref k_beforeLast, .ref k_last, .ref k_errandOf, .ref k_errandAfter, .ref k_sound, .ref k_followers, .ref k_leaders, .int (nI w), .int k_errands, .int k_alikes, .int k_law])), (k_followers, .inl (cI, 24, .inl f_followers))] := hD
      refine lv_if_eq (tgt := 110) hx hb dX0_endless_103 (by decide) (fun c_8 => ?_) (fun c_8 => ?_)
      · refine lv_iconst (v := 2) hx hb dX0_endless_110 (by decide) ?_
        have hP9 := hP.sub (ws' := [(t, .inr (8, [.ref k_name, .ref k_worth, .ref k_times, .ref k_first, .ref k_second, .ref k_beforeLast, .ref k_last, .ref k_errandOf, .ref k_errandAfter, .ref k_sound, .ref k_followers, .ref k_leaders, .int (nI w), .int k_errands, .int k_alikes, .int k_law])), (k_followers, .inl (cI, 24, .inl f_followers))]) [0, 1] rfl
        have hD9 := hD.sub (ws' := [(t, .inr (8, [.ref k_name, .ref k_worth, .ref k_times, .ref k_first, .ref k_second, .ref k_beforeLast, .ref k_last, .ref k_errandOf, .ref k_errandAfter, .ref k_sound, .ref k_followers, .ref k_leaders, .int (nI w), .int k_errands, .int k_alikes, .int k_law])), (k_followers, .inl (cI, 24, .inl f_followers))]) [0, 1] (by decide) rfl
        refine W.widen (k := 0) (n := 0) (Nat.le_of_ble_eq_true rfl) (Nat.le_of_ble_eq_true rfl) ?_
        exact W.iret (v := 2) hx hb hr (fun tz htz hWz => ⟨⟨2, [(t, .inr (8, [.ref k_name, .ref k_worth, .ref k_times, .ref k_first, .ref k_second, .ref k_beforeLast, .ref k_last, .ref k_errandOf, .ref k_errandAfter, .ref k_sound, .ref k_followers, .ref k_leaders, .int (nI w), .int k_errands, .int k_alikes, .int k_law])), (k_followers, .inl (cI, 24, .inl f_followers))], rfl, rfl, by rw [htz]; exact hP9, va_K.moved hWz.alike hK, hD9⟩, hS.F htz⟩) hS.2.2 dX0_endless_111
      · refine lv_iconst (v := 0) hx hb dX0_endless_106 (by decide) ?_
        refine lv_goto (tgt := 111) hx hb dX0_endless_107 (by decide) ?_
        have hP9 := hP.sub (ws' := [(t, .inr (8, [.ref k_name, .ref k_worth, .ref k_times, .ref k_first, .ref k_second, .ref k_beforeLast, .ref k_last, .ref k_errandOf, .ref k_errandAfter, .ref k_sound, .ref k_followers, .ref k_leaders, .int (nI w), .int k_errands, .int k_alikes, .int k_law])), (k_followers, .inl (cI, 24, .inl f_followers))]) [0, 1] rfl
        have hD9 := hD.sub (ws' := [(t, .inr (8, [.ref k_name, .ref k_worth, .ref k_times, .ref k_first, .ref k_second, .ref k_beforeLast, .ref k_last, .ref k_errandOf, .ref k_errandAfter, .ref k_sound, .ref k_followers, .ref k_leaders, .int (nI w), .int k_errands, .int k_alikes, .int k_law])), (k_followers, .inl (cI, 24, .inl f_followers))]) [0, 1] (by decide) rfl
        refine W.widen (k := 0) (n := 0) (Nat.le_of_ble_eq_true rfl) (Nat.le_of_ble_eq_true rfl) ?_
        exact W.iret (v := 0) hx hb hr (fun tz htz hWz => ⟨⟨0, [(t, .inr (8, [.ref k_name, .ref k_worth, .ref k_times, .ref k_first, .ref k_second, .ref k_beforeLast, .ref k_last, .ref k_errandOf, .ref k_errandAfter, .ref k_sound, .ref k_followers, .ref k_leaders, .int (nI w), .int k_errands, .int k_alikes, .int k_law])), (k_followers, .inl (cI, 24, .inl f_followers))], rfl, rfl, by rw [htz]; exact hP9, va_K.moved hWz.alike hK, hD9⟩, hS.F htz⟩) hS.2.2 dX0_endless_111
    · refine lv_iconst (v := 1) hx hb dX0_endless_95 (by decide) ?_
      have hP9 := hP.sub (ws' := [(t, .inr (8, [.ref k_name, .ref k_worth, .ref k_times, .ref k_first, .ref k_second, .ref k_beforeLast, .ref k_last, .ref k_errandOf, .ref k_errandAfter, .ref k_sound, .ref k_followers, .ref k_leaders, .int (nI w), .int k_errands, .int k_alikes, .int k_law])), (k_followers, .inl (cI, 24, .inl f_followers))]) [0, 1] rfl
      have hD9 := hD.sub (ws' := [(t, .inr (8, [.ref k_name, .ref k_worth, .ref k_times, .ref k_first, .ref k_second, .ref k_beforeLast, .ref k_last, .ref k_errandOf, .ref k_errandAfter, .ref k_sound, .ref k_followers, .ref k_leaders, .int (nI w), .int k_errands, .int k_alikes, .int k_law])), (k_followers, .inl (cI, 24, .inl f_followers))]) [0, 1] (by decide) rfl
      refine W.widen (k := 0) (n := 0) (Nat.le_of_ble_eq_true rfl) (Nat.le_of_ble_eq_true rfl) ?_
      exact W.iret (v := 1) hx hb hr (fun tz htz hWz => ⟨⟨1, [(t, .inr (8, [.ref k_name, .ref k_worth, .ref k_times, .ref k_first, .ref k_second, .ref k_beforeLast, .ref k_last, .ref k_errandOf, .ref k_errandAfter, .ref k_sound, .ref k_followers, .ref k_leaders, .int (nI w), .int k_errands, .int k_alikes, .int k_law])), (k_followers, .inl (cI, 24, .inl f_followers))], rfl, rfl, by rw [htz]; exact hP9, va_K.moved hWz.alike hK, hD9⟩, hS.F htz⟩) hS.2.2 dX0_endless_96
  · have dc_2 : ¬ w ≤ i := fun h => c_2 ((nI_leI (a := w) (b := i) (by omega) (by omega)).mpr h)
    refine lv_iconst (v := 0) hx hb dX0_endless_17 (by decide) ?_
    refine lv_istore (lv' := [(6, .int 0), (5, .int (nI i)), (4, .int lo1), (3, .int wi1), (0, .ref o), (1, .ref t), (2, .int x)]) hx hb dX0_endless_18 hl (by decide) rfl (fun ls hl => ?_)
    refine xb_wh (fun (n9 : Nat) H locs ls => ∃ k : Nat, ∃ wi2 : Int32, ∃ lo2 : Int32, (w - k) = n9 ∧ va_P D vwCl [(t, .inr (8, [.ref k_name, .ref k_worth, .ref k_times, .ref k_first, .ref k_second, .ref k_beforeLast, .ref k_last, .ref k_errandOf, .ref k_errandAfter, .ref k_sound, .ref k_followers, .ref k_leaders, .int (nI w), .int k_errands, .int k_alikes, .int k_law])), (k_followers, .inl (cI, 24, .inl f_followers))] H ∧ va_D A [(t, .inr (8, [.ref k_name, .ref k_worth, .ref k_times, .ref k_first, .ref k_second, .ref k_beforeLast, .ref k_last, .ref k_errandOf, .ref k_errandAfter, .ref k_sound, .ref k_followers, .ref k_leaders, .int (nI w), .int k_errands, .int k_alikes, .int k_law])), (k_followers, .inl (cI, 24, .inl f_followers))] ∧ va_S A s.heap H locs ∧ lv_has ls 7 [(6, .int (nI k)), (5, .int (nI i)), (4, .int lo2), (3, .int wi2), (0, .ref o), (1, .ref t), (2, .int x)] ∧ (k ≤ w)) ⟨0, wi1, lo1, rfl, hP, hD, hS, lv_sub hl [0, 1, 2, 3, 4, 5, 6] rfl, (by first | assumption | omega)⟩ (fun n9 H locs ls hI kk_20 => ?_)
    obtain ⟨k, wi2, lo2, hn_20, hP, hD, hS, hl, hF_h_9⟩ := hI
    refine lv_iload hx hb dX0_endless_20 (lv_at hl 0 rfl) ?_
    refine lv_aload_n hx hb dX0_endless_22 rfl (lv_at hl 5 rfl) ?_
    refine va_getN (D := D) (ci := 8) (v := .int (nI w)) (C := RX8) (T := TX8) (N := 16) hx hb hts (by decide +kernel) hown hK hP 0 rfl rfl 12 (by decide) (va_Nw.use rfl (hN.1 (RX0, 50, RX8, "words", "I", RX10) (by decide +kernel))) (fun _ h9 => h9) rfl dX0_endless_23 ?_
    refine lv_icmp_ge (tgt := 81) hx hb dX0_endless_26 (by decide) (fun c_10 => ?_) (fun c_10 => ?_)
    · have dc_10 : w ≤ k := (nI_leI (a := w) (b := k) (by omega) (by omega)).mp c_10
      refine lv_iinc (v := nI (i + 1)) (lv' := [(5, .int (nI (i + 1))), (6, .int (nI k)), (4, .int lo2), (3, .int wi2), (0, .ref o), (1, .ref t), (2, .int x)]) hx hb dX0_endless_81 hl (k := 1) rfl (nI_1 i) (by decide) rfl (fun ls hl => ?_)
      refine lv_goto (tgt := 8) hx hb dX0_endless_84 (by decide) ?_
      exact kk_8 _ _ _ _ (by rw [← hn_8]; omega) ⟨(i + 1), wi2, lo2, rfl, hP, hD, hS, lv_sub hl [0, 2, 3, 4, 5, 6] rfl, (by first | assumption | omega)⟩
    · have dc_10 : ¬ w ≤ k := fun h => c_10 ((nI_leI (a := w) (b := k) (by omega) (by omega)).mpr h)
      refine lv_aload_n hx hb dX0_endless_29 rfl (lv_at hl 5 rfl) ?_
      refine va_getN (D := D) (ci := 8) (v := .ref k_followers) (C := RX8) (T := TX8) (N := 16) hx hb hts (by decide +kernel) hown hK hP 0 rfl rfl 10 (by decide) (va_Nw.use rfl (hN.1 (RX0, 47, RX8, "followers", "[I", RX10) (by decide +kernel))) (fun _ h9 => h9) rfl dX0_endless_30 ?_
      refine lv_iload hx hb dX0_endless_33 (lv_at hl 0 rfl) ?_
      refine va_iald hx hb hK hP 1 1 rfl rfl (vp_in_nI (by omega) (by omega)) dX0_endless_35 ?_
      refine xb_top (y := f_followers k) (by rw [nI_clamp (by omega)]) ?_
      refine lv_iload hx hb dX0_endless_36 (lv_at hl 2 rfl) ?_
      refine lv_iand hx hb dX0_endless_38 ?_
      refine lv_if_eq (tgt := 52) hx hb dX0_endless_39 (by decide) (fun c_11 => ?_) (fun c_11 => ?_)
      · refine lv_aload_n hx hb dX0_endless_52 rfl (lv_at hl 5 rfl) ?_
        refine va_getN (D := D) (ci := 8) (v := .ref k_followers) (C := RX8) (T := TX8) (N := 16) hx hb hts (by decide +kernel) hown hK hP 0 rfl rfl 10 (by decide) (va_Nw.use rfl (hN.1 (RX0, 47, RX8, "followers", "[I", RX10) (by decide +kernel))) (fun _ h9 => h9) rfl dX0_endless_53 ?_
        refine lv_iload hx hb dX0_endless_56 (lv_at hl 0 rfl) ?_
        refine va_iald hx hb hK hP 1 1 rfl rfl (vp_in_nI (by omega) (by omega)) dX0_endless_58 ?_
        refine xb_top (y := f_followers k) (by rw [nI_clamp (by omega)]) ?_
        refine lv_iload_n hx hb dX0_endless_59 rfl (lv_at hl 3 rfl) ?_
        refine lv_iconst (v := (-1)) hx hb dX0_endless_60 (by decide) ?_
        refine lv_ixor hx hb dX0_endless_61 ?_
        refine lv_iand hx hb dX0_endless_62 ?_
        refine lv_if_ne (tgt := 75) hx hb dX0_endless_63 (by decide) (fun c_12 => ?_) (fun c_12 => ?_)
        · refine lv_iinc (v := nI (k + 1)) (lv' := [(6, .int (nI (k + 1))), (5, .int (nI i)), (4, .int lo2), (3, .int wi2), (0, .ref o), (1, .ref t), (2, .int x)]) hx hb dX0_endless_75 hl (k := 0) rfl (nI_1 k) (by decide) rfl (fun ls hl => ?_)
          refine lv_goto (tgt := 20) hx hb dX0_endless_78 (by decide) ?_
          exact kk_20 _ _ _ _ (by rw [← hn_20]; omega) ⟨(k + 1), wi2, lo2, rfl, hP, hD, hS, lv_sub hl [0, 1, 2, 3, 4, 5, 6] rfl, (by first | assumption | omega)⟩
        · refine lv_iload hx hb dX0_endless_66 (lv_at hl 2 rfl) ?_
          refine lv_iconst (v := 1) hx hb dX0_endless_68 (by decide) ?_
          refine lv_iload hx hb dX0_endless_69 (lv_at hl 0 rfl) ?_
          refine lv_ishl hx hb dX0_endless_71 ?_
          refine xb_top (y := nI (1 * 2 ^ k)) (nb_shl (a := 1) (i := k) (by omega)) ?_
          refine lv_ior hx hb dX0_endless_72 ?_
          refine lv_istore (lv' := [(4, .int (lo2 ||| (nI (1 * 2 ^ k)))), (6, .int (nI k)), (5, .int (nI i)), (3, .int wi2), (0, .ref o), (1, .ref t), (2, .int x)]) hx hb dX0_endless_73 hl (by decide) rfl (fun ls hl => ?_)
          refine lv_iinc (v := nI (k + 1)) (lv' := [(6, .int (nI (k + 1))), (4, .int (lo2 ||| (nI (1 * 2 ^ k)))), (5, .int (nI i)), (3, .int wi2), (0, .ref o), (1, .ref t), (2, .int x)]) hx hb dX0_endless_75 hl (k := 1) rfl (nI_1 k) (by decide) rfl (fun ls hl => ?_)
          refine lv_goto (tgt := 20) hx hb dX0_endless_78 (by decide) ?_
          exact kk_20 _ _ _ _ (by rw [← hn_20]; omega) ⟨(k + 1), wi2, (lo2 ||| (nI (1 * 2 ^ k))), rfl, hP, hD, hS, lv_sub hl [0, 2, 1, 3, 4, 5, 6] rfl, (by first | assumption | omega)⟩
      · refine lv_iload_n hx hb dX0_endless_42 rfl (lv_at hl 3 rfl) ?_
        refine lv_iconst (v := 1) hx hb dX0_endless_43 (by decide) ?_
        refine lv_iload hx hb dX0_endless_44 (lv_at hl 0 rfl) ?_
        refine lv_ishl hx hb dX0_endless_46 ?_
        refine xb_top (y := nI (1 * 2 ^ k)) (nb_shl (a := 1) (i := k) (by omega)) ?_
        refine lv_ior hx hb dX0_endless_47 ?_
        refine lv_istore_n (lv' := [(3, .int (wi2 ||| (nI (1 * 2 ^ k)))), (6, .int (nI k)), (5, .int (nI i)), (4, .int lo2), (0, .ref o), (1, .ref t), (2, .int x)]) hx hb dX0_endless_48 rfl hl (by decide) rfl (fun ls hl => ?_)
        refine lv_goto (tgt := 75) hx hb dX0_endless_49 (by decide) ?_
        refine lv_iinc (v := nI (k + 1)) (lv' := [(6, .int (nI (k + 1))), (3, .int (wi2 ||| (nI (1 * 2 ^ k)))), (5, .int (nI i)), (4, .int lo2), (0, .ref o), (1, .ref t), (2, .int x)]) hx hb dX0_endless_75 hl (k := 1) rfl (nI_1 k) (by decide) rfl (fun ls hl => ?_)
        refine lv_goto (tgt := 20) hx hb dX0_endless_78 (by decide) ?_
        exact kk_20 _ _ _ _ (by rw [← hn_20]; omega) ⟨(k + 1), (wi2 ||| (nI (1 * 2 ^ k))), lo2, rfl, hP, hD, hS, lv_sub hl [0, 2, 3, 1, 4, 5, 6] rfl, (by first | assumption | omega)⟩
