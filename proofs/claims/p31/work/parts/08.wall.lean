theorem dX9_add_0 : decode cX9_add 0 = .ok (.aload_n 0, 1) := by decide +kernel
theorem dX9_add_1 : decode cX9_add 1 = .ok (.getfield 37, 3) := by decide +kernel
theorem dX9_add_4 : decode cX9_add 4 = .ok (.bipush 30, 2) := by decide +kernel
theorem dX9_add_6 : decode cX9_add 6 = .ok (.if_icmp .lt 5, 3) := by decide +kernel
theorem dX9_add_9 : decode cX9_add 9 = .ok (.iconst (-1), 1) := by decide +kernel
theorem dX9_add_10 : decode cX9_add 10 = .ok (.ireturn, 1) := by decide +kernel
theorem dX9_add_11 : decode cX9_add 11 = .ok (.aload_n 0, 1) := by decide +kernel
theorem dX9_add_12 : decode cX9_add 12 = .ok (.getfield 37, 3) := by decide +kernel
theorem dX9_add_15 : decode cX9_add 15 = .ok (.istore 4, 2) := by decide +kernel
theorem dX9_add_17 : decode cX9_add 17 = .ok (.aload_n 0, 1) := by decide +kernel
theorem dX9_add_18 : decode cX9_add 18 = .ok (.getfield 9, 3) := by decide +kernel
theorem dX9_add_21 : decode cX9_add 21 = .ok (.iload 4, 2) := by decide +kernel
theorem dX9_add_23 : decode cX9_add 23 = .ok (.iload_n 1, 1) := by decide +kernel
theorem dX9_add_24 : decode cX9_add 24 = .ok (.iastore, 1) := by decide +kernel
theorem dX9_add_25 : decode cX9_add 25 = .ok (.aload_n 0, 1) := by decide +kernel
theorem dX9_add_26 : decode cX9_add 26 = .ok (.getfield 15, 3) := by decide +kernel
theorem dX9_add_29 : decode cX9_add 29 = .ok (.iload 4, 2) := by decide +kernel
theorem dX9_add_31 : decode cX9_add 31 = .ok (.iload_n 2, 1) := by decide +kernel
theorem dX9_add_32 : decode cX9_add 32 = .ok (.iastore, 1) := by decide +kernel
theorem dX9_add_33 : decode cX9_add 33 = .ok (.aload_n 0, 1) := by decide +kernel
theorem dX9_add_34 : decode cX9_add 34 = .ok (.getfield 18, 3) := by decide +kernel
theorem dX9_add_37 : decode cX9_add 37 = .ok (.iload 4, 2) := by decide +kernel
theorem dX9_add_39 : decode cX9_add 39 = .ok (.iload_n 3, 1) := by decide +kernel
theorem dX9_add_40 : decode cX9_add 40 = .ok (.iastore, 1) := by decide +kernel
theorem dX9_add_41 : decode cX9_add 41 = .ok (.aload_n 0, 1) := by decide +kernel
theorem dX9_add_42 : decode cX9_add 42 = .ok (.getfield 21, 3) := by decide +kernel
theorem dX9_add_45 : decode cX9_add 45 = .ok (.iload 4, 2) := by decide +kernel
theorem dX9_add_47 : decode cX9_add 47 = .ok (.aload_n 0, 1) := by decide +kernel
theorem dX9_add_48 : decode cX9_add 48 = .ok (.getfield 41, 3) := by decide +kernel
theorem dX9_add_51 : decode cX9_add 51 = .ok (.iastore, 1) := by decide +kernel
theorem dX9_add_52 : decode cX9_add 52 = .ok (.aload_n 0, 1) := by decide +kernel
theorem dX9_add_53 : decode cX9_add 53 = .ok (.getfield 24, 3) := by decide +kernel
theorem dX9_add_56 : decode cX9_add 56 = .ok (.iload 4, 2) := by decide +kernel
theorem dX9_add_58 : decode cX9_add 58 = .ok (.iconst (-1), 1) := by decide +kernel
theorem dX9_add_59 : decode cX9_add 59 = .ok (.iastore, 1) := by decide +kernel
theorem dX9_add_60 : decode cX9_add 60 = .ok (.aload_n 0, 1) := by decide +kernel
theorem dX9_add_61 : decode cX9_add 61 = .ok (.dup, 1) := by decide +kernel
theorem dX9_add_62 : decode cX9_add 62 = .ok (.getfield 37, 3) := by decide +kernel
theorem dX9_add_65 : decode cX9_add 65 = .ok (.iconst 1, 1) := by decide +kernel
theorem dX9_add_66 : decode cX9_add 66 = .ok (.iadd, 1) := by decide +kernel
theorem dX9_add_67 : decode cX9_add 67 = .ok (.putfield 37, 3) := by decide +kernel
theorem dX9_add_70 : decode cX9_add 70 = .ok (.iload 4, 2) := by decide +kernel
theorem dX9_add_72 : decode cX9_add 72 = .ok (.ireturn, 1) := by decide +kernel
theorem dX9_gathered_0 : decode cX9_gathered 0 = .ok (.iconst 0, 1) := by decide +kernel
theorem dX9_gathered_1 : decode cX9_gathered 1 = .ok (.istore 4, 2) := by decide +kernel
theorem dX9_gathered_3 : decode cX9_gathered 3 = .ok (.iconst 0, 1) := by decide +kernel
theorem dX9_gathered_4 : decode cX9_gathered 4 = .ok (.istore 5, 2) := by decide +kernel
theorem dX9_gathered_6 : decode cX9_gathered 6 = .ok (.iload 5, 2) := by decide +kernel
theorem dX9_gathered_8 : decode cX9_gathered 8 = .ok (.iload_n 3, 1) := by decide +kernel
theorem dX9_gathered_9 : decode cX9_gathered 9 = .ok (.if_icmp .ge 27, 3) := by decide +kernel
theorem dX9_gathered_12 : decode cX9_gathered 12 = .ok (.iload_n 2, 1) := by decide +kernel
theorem dX9_gathered_13 : decode cX9_gathered 13 = .ok (.iload 5, 2) := by decide +kernel
theorem dX9_gathered_15 : decode cX9_gathered 15 = .ok (.invokestatic 53, 3) := by decide +kernel
theorem dX9_gathered_18 : decode cX9_gathered 18 = .ok (.ifCond .eq 12, 3) := by decide +kernel
theorem dX9_gathered_21 : decode cX9_gathered 21 = .ok (.iload 4, 2) := by decide +kernel
theorem dX9_gathered_23 : decode cX9_gathered 23 = .ok (.aload_n 1, 1) := by decide +kernel
theorem dX9_gathered_24 : decode cX9_gathered 24 = .ok (.iload 5, 2) := by decide +kernel
theorem dX9_gathered_26 : decode cX9_gathered 26 = .ok (.iaload, 1) := by decide +kernel
theorem dX9_gathered_27 : decode cX9_gathered 27 = .ok (.ior, 1) := by decide +kernel
theorem dX9_gathered_28 : decode cX9_gathered 28 = .ok (.istore 4, 2) := by decide +kernel
theorem dX9_gathered_30 : decode cX9_gathered 30 = .ok (.iinc 5 1, 3) := by decide +kernel
theorem dX9_gathered_33 : decode cX9_gathered 33 = .ok (.goto (-27), 3) := by decide +kernel
theorem dX9_gathered_36 : decode cX9_gathered 36 = .ok (.iload 4, 2) := by decide +kernel
theorem dX9_gathered_38 : decode cX9_gathered 38 = .ok (.ireturn, 1) := by decide +kernel
theorem dX9_rowsInto_0 : decode cX9_rowsInto 0 = .ok (.lconst 0, 1) := by decide +kernel
theorem dX9_rowsInto_1 : decode cX9_rowsInto 1 = .ok (.lstore_n 3, 1) := by decide +kernel
theorem dX9_rowsInto_2 : decode cX9_rowsInto 2 = .ok (.iconst 0, 1) := by decide +kernel
theorem dX9_rowsInto_3 : decode cX9_rowsInto 3 = .ok (.istore 5, 2) := by decide +kernel
theorem dX9_rowsInto_5 : decode cX9_rowsInto 5 = .ok (.iload 5, 2) := by decide +kernel
theorem dX9_rowsInto_7 : decode cX9_rowsInto 7 = .ok (.aload_n 1, 1) := by decide +kernel
theorem dX9_rowsInto_8 : decode cX9_rowsInto 8 = .ok (.getfield 48, 3) := by decide +kernel
theorem dX9_rowsInto_11 : decode cX9_rowsInto 11 = .ok (.if_icmp .ge 33, 3) := by decide +kernel
theorem dX9_rowsInto_14 : decode cX9_rowsInto 14 = .ok (.aload_n 1, 1) := by decide +kernel
theorem dX9_rowsInto_15 : decode cX9_rowsInto 15 = .ok (.getfield 69, 3) := by decide +kernel
theorem dX9_rowsInto_18 : decode cX9_rowsInto 18 = .ok (.iload_n 2, 1) := by decide +kernel
theorem dX9_rowsInto_19 : decode cX9_rowsInto 19 = .ok (.iaload, 1) := by decide +kernel
theorem dX9_rowsInto_20 : decode cX9_rowsInto 20 = .ok (.iload 5, 2) := by decide +kernel
theorem dX9_rowsInto_22 : decode cX9_rowsInto 22 = .ok (.invokestatic 53, 3) := by decide +kernel
theorem dX9_rowsInto_25 : decode cX9_rowsInto 25 = .ok (.ifCond .eq 13, 3) := by decide +kernel
theorem dX9_rowsInto_28 : decode cX9_rowsInto 28 = .ok (.lload_n 3, 1) := by decide +kernel
theorem dX9_rowsInto_29 : decode cX9_rowsInto 29 = .ok (.aload_n 0, 1) := by decide +kernel
theorem dX9_rowsInto_30 : decode cX9_rowsInto 30 = .ok (.getfield 30, 3) := by decide +kernel
theorem dX9_rowsInto_33 : decode cX9_rowsInto 33 = .ok (.iload 5, 2) := by decide +kernel
theorem dX9_rowsInto_35 : decode cX9_rowsInto 35 = .ok (.laload, 1) := by decide +kernel
theorem dX9_rowsInto_36 : decode cX9_rowsInto 36 = .ok (.ladd, 1) := by decide +kernel
theorem dX9_rowsInto_37 : decode cX9_rowsInto 37 = .ok (.lstore_n 3, 1) := by decide +kernel
theorem dX9_rowsInto_38 : decode cX9_rowsInto 38 = .ok (.iinc 5 1, 3) := by decide +kernel
theorem dX9_rowsInto_41 : decode cX9_rowsInto 41 = .ok (.goto (-36), 3) := by decide +kernel
theorem dX9_rowsInto_44 : decode cX9_rowsInto 44 = .ok (.lload_n 3, 1) := by decide +kernel
theorem dX9_rowsInto_45 : decode cX9_rowsInto 45 = .ok (.lreturn, 1) := by decide +kernel
theorem dX9_takeBack_0 : decode cX9_takeBack 0 = .ok (.iload_n 1, 1) := by decide +kernel
theorem dX9_takeBack_1 : decode cX9_takeBack 1 = .ok (.ifCond .lt 21, 3) := by decide +kernel
theorem dX9_takeBack_4 : decode cX9_takeBack 4 = .ok (.iload_n 1, 1) := by decide +kernel
theorem dX9_takeBack_5 : decode cX9_takeBack 5 = .ok (.aload_n 0, 1) := by decide +kernel
theorem dX9_takeBack_6 : decode cX9_takeBack 6 = .ok (.getfield 37, 3) := by decide +kernel
theorem dX9_takeBack_9 : decode cX9_takeBack 9 = .ok (.if_icmp .ge 13, 3) := by decide +kernel
theorem dX9_takeBack_12 : decode cX9_takeBack 12 = .ok (.aload_n 0, 1) := by decide +kernel
theorem dX9_takeBack_13 : decode cX9_takeBack 13 = .ok (.getfield 24, 3) := by decide +kernel
theorem dX9_takeBack_16 : decode cX9_takeBack 16 = .ok (.iload_n 1, 1) := by decide +kernel
theorem dX9_takeBack_17 : decode cX9_takeBack 17 = .ok (.iaload, 1) := by decide +kernel
theorem dX9_takeBack_18 : decode cX9_takeBack 18 = .ok (.iconst (-1), 1) := by decide +kernel
theorem dX9_takeBack_19 : decode cX9_takeBack 19 = .ok (.if_icmp .eq 5, 3) := by decide +kernel
theorem dX9_takeBack_22 : decode cX9_takeBack 22 = .ok (.iconst 0, 1) := by decide +kernel
theorem dX9_takeBack_23 : decode cX9_takeBack 23 = .ok (.ireturn, 1) := by decide +kernel
theorem dX9_takeBack_24 : decode cX9_takeBack 24 = .ok (.aload_n 0, 1) := by decide +kernel
theorem dX9_takeBack_25 : decode cX9_takeBack 25 = .ok (.getfield 24, 3) := by decide +kernel
theorem dX9_takeBack_28 : decode cX9_takeBack 28 = .ok (.iload_n 1, 1) := by decide +kernel
theorem dX9_takeBack_29 : decode cX9_takeBack 29 = .ok (.aload_n 0, 1) := by decide +kernel
theorem dX9_takeBack_30 : decode cX9_takeBack 30 = .ok (.getfield 41, 3) := by decide +kernel
theorem dX9_takeBack_33 : decode cX9_takeBack 33 = .ok (.iastore, 1) := by decide +kernel
theorem dX9_takeBack_34 : decode cX9_takeBack 34 = .ok (.iconst 1, 1) := by decide +kernel
theorem dX9_takeBack_35 : decode cX9_takeBack 35 = .ok (.ireturn, 1) := by decide +kernel
theorem dX9_wordsOf_0 : decode cX9_wordsOf 0 = .ok (.iload_n 2, 1) := by decide +kernel
theorem dX9_wordsOf_1 : decode cX9_wordsOf 1 = .ok (.ifCond .ne 7, 3) := by decide +kernel
theorem dX9_wordsOf_4 : decode cX9_wordsOf 4 = .ok (.iconst 1, 1) := by decide +kernel
theorem dX9_wordsOf_5 : decode cX9_wordsOf 5 = .ok (.iload_n 3, 1) := by decide +kernel
theorem dX9_wordsOf_6 : decode cX9_wordsOf 6 = .ok (.ishl, 1) := by decide +kernel
theorem dX9_wordsOf_7 : decode cX9_wordsOf 7 = .ok (.ireturn, 1) := by decide +kernel
theorem dX9_wordsOf_8 : decode cX9_wordsOf 8 = .ok (.iload_n 2, 1) := by decide +kernel
theorem dX9_wordsOf_9 : decode cX9_wordsOf 9 = .ok (.iconst 1, 1) := by decide +kernel
theorem dX9_wordsOf_10 : decode cX9_wordsOf 10 = .ok (.if_icmp .ne 10, 3) := by decide +kernel
theorem dX9_wordsOf_13 : decode cX9_wordsOf 13 = .ok (.aload_n 1, 1) := by decide +kernel
theorem dX9_wordsOf_14 : decode cX9_wordsOf 14 = .ok (.getfield 93, 3) := by decide +kernel
theorem dX9_wordsOf_17 : decode cX9_wordsOf 17 = .ok (.goto 7, 3) := by decide +kernel
theorem dX9_wordsOf_20 : decode cX9_wordsOf 20 = .ok (.aload_n 1, 1) := by decide +kernel
theorem dX9_wordsOf_21 : decode cX9_wordsOf 21 = .ok (.getfield 96, 3) := by decide +kernel
theorem dX9_wordsOf_24 : decode cX9_wordsOf 24 = .ok (.astore 4, 2) := by decide +kernel
theorem dX9_wordsOf_26 : decode cX9_wordsOf 26 = .ok (.iconst 0, 1) := by decide +kernel
theorem dX9_wordsOf_27 : decode cX9_wordsOf 27 = .ok (.istore 5, 2) := by decide +kernel
theorem dX9_wordsOf_29 : decode cX9_wordsOf 29 = .ok (.iconst 0, 1) := by decide +kernel
theorem dX9_wordsOf_30 : decode cX9_wordsOf 30 = .ok (.istore 6, 2) := by decide +kernel
theorem dX9_wordsOf_32 : decode cX9_wordsOf 32 = .ok (.iload 6, 2) := by decide +kernel
theorem dX9_wordsOf_34 : decode cX9_wordsOf 34 = .ok (.aload_n 1, 1) := by decide +kernel
theorem dX9_wordsOf_35 : decode cX9_wordsOf 35 = .ok (.getfield 48, 3) := by decide +kernel
theorem dX9_wordsOf_38 : decode cX9_wordsOf 38 = .ok (.if_icmp .ge 37, 3) := by decide +kernel
theorem dX9_wordsOf_41 : decode cX9_wordsOf 41 = .ok (.aload_n 1, 1) := by decide +kernel
theorem dX9_wordsOf_42 : decode cX9_wordsOf 42 = .ok (.getfield 99, 3) := by decide +kernel
theorem dX9_wordsOf_45 : decode cX9_wordsOf 45 = .ok (.aload 4, 2) := by decide +kernel
theorem dX9_wordsOf_47 : decode cX9_wordsOf 47 = .ok (.iload 6, 2) := by decide +kernel
theorem dX9_wordsOf_49 : decode cX9_wordsOf 49 = .ok (.iaload, 1) := by decide +kernel
theorem dX9_wordsOf_50 : decode cX9_wordsOf 50 = .ok (.iaload, 1) := by decide +kernel
theorem dX9_wordsOf_51 : decode cX9_wordsOf 51 = .ok (.aload_n 1, 1) := by decide +kernel
theorem dX9_wordsOf_52 : decode cX9_wordsOf 52 = .ok (.getfield 99, 3) := by decide +kernel
theorem dX9_wordsOf_55 : decode cX9_wordsOf 55 = .ok (.iload_n 3, 1) := by decide +kernel
theorem dX9_wordsOf_56 : decode cX9_wordsOf 56 = .ok (.iaload, 1) := by decide +kernel
theorem dX9_wordsOf_57 : decode cX9_wordsOf 57 = .ok (.if_icmp .ne 12, 3) := by decide +kernel
theorem dX9_wordsOf_60 : decode cX9_wordsOf 60 = .ok (.iload 5, 2) := by decide +kernel
theorem dX9_wordsOf_62 : decode cX9_wordsOf 62 = .ok (.iconst 1, 1) := by decide +kernel
theorem dX9_wordsOf_63 : decode cX9_wordsOf 63 = .ok (.iload 6, 2) := by decide +kernel
theorem dX9_wordsOf_65 : decode cX9_wordsOf 65 = .ok (.ishl, 1) := by decide +kernel
theorem dX9_wordsOf_66 : decode cX9_wordsOf 66 = .ok (.ior, 1) := by decide +kernel
theorem dX9_wordsOf_67 : decode cX9_wordsOf 67 = .ok (.istore 5, 2) := by decide +kernel
theorem dX9_wordsOf_69 : decode cX9_wordsOf 69 = .ok (.iinc 6 1, 3) := by decide +kernel
theorem dX9_wordsOf_72 : decode cX9_wordsOf 72 = .ok (.goto (-40), 3) := by decide +kernel
theorem dX9_wordsOf_75 : decode cX9_wordsOf 75 = .ok (.iload 5, 2) := by decide +kernel
theorem dX9_wordsOf_77 : decode cX9_wordsOf 77 = .ok (.ireturn, 1) := by decide +kernel
set_option maxRecDepth 20000 in
theorem ggX9_gathered_X10_isIn : GoodIn wsX9_gathered wsX10_isIn := goodIn_r _ [3] (by decide +kernel) (by decide +kernel)
set_option maxRecDepth 20000 in
theorem gX9_gathered_X10_isIn_n53 : GoodIn wsX9_gathered (wsX10_isIn) := ggX9_gathered_X10_isIn
set_option maxRecDepth 20000 in
theorem ggX9_rowsInto_X10_isIn : GoodIn wsX9_rowsInto wsX10_isIn := goodIn_r _ [4] (by decide +kernel) (by decide +kernel)
set_option maxRecDepth 20000 in
theorem gX9_rowsInto_X10_isIn_n53 : GoodIn wsX9_rowsInto (wsX10_isIn) := ggX9_rowsInto_X10_isIn
set_option maxHeartbeats 4000000 in
set_option maxRecDepth 100000 in
theorem c_X9_add (l : Launch) (D : va_G) (cB cI cJ cS cZ cO : ClassId) (sz : Nat) (o : Nat) (p1 : Nat) (y : Int32) (x : Int32) (wl_places : Nat) (wl_kinds : Nat) (wl_values : Nat) (wl_toldAt : Nat) (wl_untoldAt : Nat) (wl_standing : Nat) (wl_rows : Nat) (wl_longer : Nat) (sn : Nat) (wl_time : Int32) (f_places : Nat → Int32) (f_kinds : Nat → Int32) (f_values : Nat → Int32) (f_toldAt : Nat → Int32) (f_untoldAt : Nat → Int32) (hsn : sn ≤ 30) (hpl : rgN f_places sn 12) (hvv : (∀ j, j < sn → f_kinds j = 0 ∨ ∃ q, q < 26 ∧ f_values j = nI q)) (hp1 : p1 < 12) (hv : y = 0 ∨ ∃ q, q < 26 ∧ x = nI q) : Met l yX9_add wsX9_add ({ frames := 0, cells := 0, slots := 0, locals := 0 }) (xPre D (tyL cB cI cJ cS cZ cO) [(o, .inr (9, [.ref wl_places, .ref wl_kinds, .ref wl_values, .ref wl_toldAt, .ref wl_untoldAt, .ref wl_standing, .ref wl_rows, .ref wl_longer, .int (nI sn), .int wl_time])), (wl_places, .inl (cI, 30, .inl f_places)), (wl_kinds, .inl (cI, 30, .inl f_kinds)), (wl_values, .inl (cI, 30, .inl f_values)), (wl_toldAt, .inl (cI, 30, .inl f_toldAt)), (wl_untoldAt, .inl (cI, 30, .inl f_untoldAt))] sz [.ref o, .int (nI p1), .int y, .int x]) (xQi D (tyL cB cI cJ cS cZ cO) (va_A [(o, .inr (9, [.ref wl_places, .ref wl_kinds, .ref wl_values, .ref wl_toldAt, .ref wl_untoldAt, .ref wl_standing, .ref wl_rows, .ref wl_longer, .int (nI sn), .int wl_time])), (wl_places, .inl (cI, 30, .inl f_places)), (wl_kinds, .inl (cI, 30, .inl f_kinds)), (wl_values, .inl (cI, 30, .inl f_values)), (wl_toldAt, .inl (cI, 30, .inl f_toldAt)), (wl_untoldAt, .inl (cI, 30, .inl f_untoldAt))] sz) (fun (r : Int32) (u : va_W) => ∃ sn2 : Nat, ∃ g_places : Nat → Int32, ∃ g_kinds : Nat → Int32, ∃ g_values : Nat → Int32, ∃ g_toldAt : Nat → Int32, ∃ g_untoldAt : Nat → Int32, u = [(o, .inr (9, [.ref wl_places, .ref wl_kinds, .ref wl_values, .ref wl_toldAt, .ref wl_untoldAt, .ref wl_standing, .ref wl_rows, .ref wl_longer, .int (nI sn2), .int wl_time])), (wl_places, .inl (cI, 30, .inl g_places)), (wl_kinds, .inl (cI, 30, .inl g_kinds)), (wl_values, .inl (cI, 30, .inl g_values)), (wl_toldAt, .inl (cI, 30, .inl g_toldAt)), (wl_untoldAt, .inl (cI, 30, .inl g_untoldAt))] ∧ sn2 ≤ 30 ∧ rgN g_places sn2 12 ∧ (∀ j, j < sn2 → g_kinds j = 0 ∨ ∃ q, q < 26 ∧ g_values j = nI q))) 0 0 (va_A [(o, .inr (9, [.ref wl_places, .ref wl_kinds, .ref wl_values, .ref wl_toldAt, .ref wl_untoldAt, .ref wl_standing, .ref wl_rows, .ref wl_longer, .int (nI sn), .int wl_time])), (wl_places, .inl (cI, 30, .inl f_places)), (wl_kinds, .inl (cI, 30, .inl f_kinds)), (wl_values, .inl (cI, 30, .inl f_values)), (wl_toldAt, .inl (cI, 30, .inl f_toldAt)), (wl_untoldAt, .inl (cI, 30, .inl f_untoldAt))] sz) := by
  refine Met.ofW (cc := cX9_add) (maxL := 5) (ret := (some .int)) (by decide) rfl ?_
  intro p e s m args below meth c s₁ B hml hv
  obtain ⟨rfl, hsz, hP, hK, hD0, hN⟩ := hv
  have hx := B.exec
  have hb := B.bytes
  have hr := B.returns
  have hts := atoms_spec (ws := wsX9_add) B.pre
  have hown : s.vm.findClass RX9 = some m.cls := findClass_of_methodNamed B.named
  have hlocks := B.notSynchronized
  subst hsz
  have hD := hD0.self (sz := s.heap.size)
  generalize hAe : va_A [(o, .inr (9, [.ref wl_places, .ref wl_kinds, .ref wl_values, .ref wl_toldAt, .ref wl_untoldAt, .ref wl_standing, .ref wl_rows, .ref wl_longer, .int (nI sn), .int wl_time])), (wl_places, .inl (cI, 30, .inl f_places)), (wl_kinds, .inl (cI, 30, .inl f_kinds)), (wl_values, .inl (cI, 30, .inl f_values)), (wl_toldAt, .inl (cI, 30, .inl f_toldAt)), (wl_untoldAt, .inl (cI, 30, .inl f_untoldAt))] s.heap.size = A at hD ⊢
  have hA : ∀ q : Nat, s.heap.size ≤ q → A q := fun q h => by rw [← hAe]; exact Or.inr h
  have hS : va_S A s.heap s.heap [] := va_S.rf
  have hP : va_P D vwCl [(o, .inr (9, [.ref wl_places, .ref wl_kinds, .ref wl_values, .ref wl_toldAt, .ref wl_untoldAt, .ref wl_standing, .ref wl_rows, .ref wl_longer, .int (nI sn), .int wl_time])), (wl_places, .inl (cI, 30, .inl f_places)), (wl_kinds, .inl (cI, 30, .inl f_kinds)), (wl_values, .inl (cI, 30, .inl f_values)), (wl_toldAt, .inl (cI, 30, .inl f_toldAt)), (wl_untoldAt, .inl (cI, 30, .inl f_untoldAt))] s.heap := hP
  have hl := lv_entry ([.ref o, .int (nI p1), .int y, .int x]) (n := 5) (Nat.le_of_ble_eq_true rfl)
  rw [lg_entry_eq]
  generalize (lg_sl ([.ref o, .int (nI p1), .int y, .int x]) ++ List.replicate (5 - (lg_sl ([.ref o, .int (nI p1), .int y, .int x])).length) Slot.unset).toArray = ls at hl ⊢
  have hl : lv_has ls 5 [(0, .ref o), (1, .int (nI p1)), (2, .int y), (3, .int x)] := hl
  refine lv_aload_n hx hb dX9_add_0 rfl (lv_at hl 0 rfl) ?_
  refine va_get (D := D) (ci := 9) (v := .int (nI sn)) (C := RX9) (T := TX9) (N := 10) hx hb hts (by decide +kernel) hown hK hP 0 rfl rfl 8 (by decide) (hts (.fieldLink RX9 37 "LastLetter$Wall" "sounds" "I") (by decide +kernel)) (fun _ h9 => h9) rfl dX9_add_1 ?_
  refine lv_bipush (v := 30) hx hb dX9_add_4 (by decide) ?_
  refine lv_icmp_lt (tgt := 11) hx hb dX9_add_6 (by decide) (fun c_1 => ?_) (fun c_1 => ?_)
  · have dc_1 : sn < 30 := (nI_ltI (a := sn) (b := 30) (by omega) (by omega)).mp c_1
    refine lv_aload_n hx hb dX9_add_11 rfl (lv_at hl 0 rfl) ?_
    refine va_get (D := D) (ci := 9) (v := .int (nI sn)) (C := RX9) (T := TX9) (N := 10) hx hb hts (by decide +kernel) hown hK hP 0 rfl rfl 8 (by decide) (hts (.fieldLink RX9 37 "LastLetter$Wall" "sounds" "I") (by decide +kernel)) (fun _ h9 => h9) rfl dX9_add_12 ?_
    refine lv_istore (lv' := [(4, .int (nI sn)), (0, .ref o), (1, .int (nI p1)), (2, .int y), (3, .int x)]) hx hb dX9_add_15 hl (by decide) rfl (fun ls hl => ?_)
    refine lv_aload_n hx hb dX9_add_17 rfl (lv_at hl 1 rfl) ?_
    refine va_get (D := D) (ci := 9) (v := .ref wl_places) (C := RX9) (T := TX9) (N := 10) hx hb hts (by decide +kernel) hown hK hP 0 rfl rfl 0 (by decide) (hts (.fieldLink RX9 9 "LastLetter$Wall" "places" "[I") (by decide +kernel)) (fun _ h9 => h9) rfl dX9_add_18 ?_
    refine lv_iload hx hb dX9_add_21 (lv_at hl 0 rfl) ?_
    refine lv_iload_n hx hb dX9_add_23 rfl (lv_at hl 2 rfl) ?_
    refine va_iast hx hb hK hP hD hS 1 1 rfl rfl (vp_in_nI (by omega) (by omega)) dX9_add_24 (fun H locs hP hD hS => ?_)
    have hP : va_P D vwCl [(o, .inr (9, [.ref wl_places, .ref wl_kinds, .ref wl_values, .ref wl_toldAt, .ref wl_untoldAt, .ref wl_standing, .ref wl_rows, .ref wl_longer, .int (nI sn), .int wl_time])), (wl_places, .inl (cI, 30, .inl (upd f_places (Int32.toNatClampNeg (nI sn)) (nI p1)))), (wl_kinds, .inl (cI, 30, .inl f_kinds)), (wl_values, .inl (cI, 30, .inl f_values)), (wl_toldAt, .inl (cI, 30, .inl f_toldAt)), (wl_untoldAt, .inl (cI, 30, .inl f_untoldAt))] H := hP
    have hD : va_D A [(o, .inr (9, [.ref wl_places, .ref wl_kinds, .ref wl_values, .ref wl_toldAt, .ref wl_untoldAt, .ref wl_standing, .ref wl_rows, .ref wl_longer, .int (nI sn), .int wl_time])), (wl_places, .inl (cI, 30, .inl (upd f_places (Int32.toNatClampNeg (nI sn)) (nI p1)))), (wl_kinds, .inl (cI, 30, .inl f_kinds)), (wl_values, .inl (cI, 30, .inl f_values)), (wl_toldAt, .inl (cI, 30, .inl f_toldAt)), (wl_untoldAt, .inl (cI, 30, .inl f_untoldAt))] := hD
    generalize eg_2 : upd f_places (Int32.toNatClampNeg (nI sn)) (nI p1) = g_2 at hP hD
    refine lv_aload_n hx hb dX9_add_25 rfl (lv_at hl 1 rfl) ?_
    refine va_get (D := D) (ci := 9) (v := .ref wl_kinds) (C := RX9) (T := TX9) (N := 10) hx hb hts (by decide +kernel) hown hK hP 0 rfl rfl 1 (by decide) (hts (.fieldLink RX9 15 "LastLetter$Wall" "kinds" "[I") (by decide +kernel)) (fun _ h9 => h9) rfl dX9_add_26 ?_
    refine lv_iload hx hb dX9_add_29 (lv_at hl 0 rfl) ?_
    refine lv_iload_n hx hb dX9_add_31 rfl (lv_at hl 3 rfl) ?_
    refine va_iast hx hb hK hP hD hS 2 1 rfl rfl (vp_in_nI (by omega) (by omega)) dX9_add_32 (fun H locs hP hD hS => ?_)
    have hP : va_P D vwCl [(o, .inr (9, [.ref wl_places, .ref wl_kinds, .ref wl_values, .ref wl_toldAt, .ref wl_untoldAt, .ref wl_standing, .ref wl_rows, .ref wl_longer, .int (nI sn), .int wl_time])), (wl_places, .inl (cI, 30, .inl g_2)), (wl_kinds, .inl (cI, 30, .inl (upd f_kinds (Int32.toNatClampNeg (nI sn)) y))), (wl_values, .inl (cI, 30, .inl f_values)), (wl_toldAt, .inl (cI, 30, .inl f_toldAt)), (wl_untoldAt, .inl (cI, 30, .inl f_untoldAt))] H := hP
    have hD : va_D A [(o, .inr (9, [.ref wl_places, .ref wl_kinds, .ref wl_values, .ref wl_toldAt, .ref wl_untoldAt, .ref wl_standing, .ref wl_rows, .ref wl_longer, .int (nI sn), .int wl_time])), (wl_places, .inl (cI, 30, .inl g_2)), (wl_kinds, .inl (cI, 30, .inl (upd f_kinds (Int32.toNatClampNeg (nI sn)) y))), (wl_values, .inl (cI, 30, .inl f_values)), (wl_toldAt, .inl (cI, 30, .inl f_toldAt)), (wl_untoldAt, .inl (cI, 30, .inl f_untoldAt))] := hD
    generalize eg_3 : upd f_kinds (Int32.toNatClampNeg (nI sn)) y = g_3 at hP hD
    refine lv_aload_n hx hb dX9_add_33 rfl (lv_at hl 1 rfl) ?_
    refine va_get (D := D) (ci := 9) (v := .ref wl_values) (C := RX9) (T := TX9) (N := 10) hx hb hts (by decide +kernel) hown hK hP 0 rfl rfl 2 (by decide) (hts (.fieldLink RX9 18 "LastLetter$Wall" "values" "[I") (by decide +kernel)) (fun _ h9 => h9) rfl dX9_add_34 ?_
    refine lv_iload hx hb dX9_add_37 (lv_at hl 0 rfl) ?_
    refine lv_iload_n hx hb dX9_add_39 rfl (lv_at hl 4 rfl) ?_
    refine va_iast hx hb hK hP hD hS 3 1 rfl rfl (vp_in_nI (by omega) (by omega)) dX9_add_40 (fun H locs hP hD hS => ?_)
    have hP : va_P D vwCl [(o, .inr (9, [.ref wl_places, .ref wl_kinds, .ref wl_values, .ref wl_toldAt, .ref wl_untoldAt, .ref wl_standing, .ref wl_rows, .ref wl_longer, .int (nI sn), .int wl_time])), (wl_places, .inl (cI, 30, .inl g_2)), (wl_kinds, .inl (cI, 30, .inl g_3)), (wl_values, .inl (cI, 30, .inl (upd f_values (Int32.toNatClampNeg (nI sn)) x))), (wl_toldAt, .inl (cI, 30, .inl f_toldAt)), (wl_untoldAt, .inl (cI, 30, .inl f_untoldAt))] H := hP
    have hD : va_D A [(o, .inr (9, [.ref wl_places, .ref wl_kinds, .ref wl_values, .ref wl_toldAt, .ref wl_untoldAt, .ref wl_standing, .ref wl_rows, .ref wl_longer, .int (nI sn), .int wl_time])), (wl_places, .inl (cI, 30, .inl g_2)), (wl_kinds, .inl (cI, 30, .inl g_3)), (wl_values, .inl (cI, 30, .inl (upd f_values (Int32.toNatClampNeg (nI sn)) x))), (wl_toldAt, .inl (cI, 30, .inl f_toldAt)), (wl_untoldAt, .inl (cI, 30, .inl f_untoldAt))] := hD
    generalize eg_4 : upd f_values (Int32.toNatClampNeg (nI sn)) x = g_4 at hP hD
    refine lv_aload_n hx hb dX9_add_41 rfl (lv_at hl 1 rfl) ?_
    refine va_get (D := D) (ci := 9) (v := .ref wl_toldAt) (C := RX9) (T := TX9) (N := 10) hx hb hts (by decide +kernel) hown hK hP 0 rfl rfl 3 (by decide) (hts (.fieldLink RX9 21 "LastLetter$Wall" "toldAt" "[I") (by decide +kernel)) (fun _ h9 => h9) rfl dX9_add_42 ?_
    refine lv_iload hx hb dX9_add_45 (lv_at hl 0 rfl) ?_
    refine lv_aload_n hx hb dX9_add_47 rfl (lv_at hl 1 rfl) ?_
    refine va_get (D := D) (ci := 9) (v := .int wl_time) (C := RX9) (T := TX9) (N := 10) hx hb hts (by decide +kernel) hown hK hP 0 rfl rfl 9 (by decide) (hts (.fieldLink RX9 41 "LastLetter$Wall" "time" "I") (by decide +kernel)) (fun _ h9 => h9) rfl dX9_add_48 ?_
    refine va_iast hx hb hK hP hD hS 4 1 rfl rfl (vp_in_nI (by omega) (by omega)) dX9_add_51 (fun H locs hP hD hS => ?_)
    have hP : va_P D vwCl [(o, .inr (9, [.ref wl_places, .ref wl_kinds, .ref wl_values, .ref wl_toldAt, .ref wl_untoldAt, .ref wl_standing, .ref wl_rows, .ref wl_longer, .int (nI sn), .int wl_time])), (wl_places, .inl (cI, 30, .inl g_2)), (wl_kinds, .inl (cI, 30, .inl g_3)), (wl_values, .inl (cI, 30, .inl g_4)), (wl_toldAt, .inl (cI, 30, .inl (upd f_toldAt (Int32.toNatClampNeg (nI sn)) wl_time))), (wl_untoldAt, .inl (cI, 30, .inl f_untoldAt))] H := hP
    have hD : va_D A [(o, .inr (9, [.ref wl_places, .ref wl_kinds, .ref wl_values, .ref wl_toldAt, .ref wl_untoldAt, .ref wl_standing, .ref wl_rows, .ref wl_longer, .int (nI sn), .int wl_time])), (wl_places, .inl (cI, 30, .inl g_2)), (wl_kinds, .inl (cI, 30, .inl g_3)), (wl_values, .inl (cI, 30, .inl g_4)), (wl_toldAt, .inl (cI, 30, .inl (upd f_toldAt (Int32.toNatClampNeg (nI sn)) wl_time))), (wl_untoldAt, .inl (cI, 30, .inl f_untoldAt))] := hD
    generalize eg_5 : upd f_toldAt (Int32.toNatClampNeg (nI sn)) wl_time = g_5 at hP hD
    refine lv_aload_n hx hb dX9_add_52 rfl (lv_at hl 1 rfl) ?_
    refine va_get (D := D) (ci := 9) (v := .ref wl_untoldAt) (C := RX9) (T := TX9) (N := 10) hx hb hts (by decide +kernel) hown hK hP 0 rfl rfl 4 (by decide) (hts (.fieldLink RX9 24 "LastLetter$Wall" "untoldAt" "[I") (by decide +kernel)) (fun _ h9 => h9) rfl dX9_add_53 ?_
    refine lv_iload hx hb dX9_add_56 (lv_at hl 0 rfl) ?_
    refine lv_iconst (v := (-1)) hx hb dX9_add_58 (by decide) ?_
    refine va_iast hx hb hK hP hD hS 5 1 rfl rfl (vp_in_nI (by omega) (by omega)) dX9_add_59 (fun H locs hP hD hS => ?_)
    have hP : va_P D vwCl [(o, .inr (9, [.ref wl_places, .ref wl_kinds, .ref wl_values, .ref wl_toldAt, .ref wl_untoldAt, .ref wl_standing, .ref wl_rows, .ref wl_longer, .int (nI sn), .int wl_time])), (wl_places, .inl (cI, 30, .inl g_2)), (wl_kinds, .inl (cI, 30, .inl g_3)), (wl_values, .inl (cI, 30, .inl g_4)), (wl_toldAt, .inl (cI, 30, .inl g_5)), (wl_untoldAt, .inl (cI, 30, .inl (upd f_untoldAt (Int32.toNatClampNeg (nI sn)) (-1))))] H := hP
    have hD : va_D A [(o, .inr (9, [.ref wl_places, .ref wl_kinds, .ref wl_values, .ref wl_toldAt, .ref wl_untoldAt, .ref wl_standing, .ref wl_rows, .ref wl_longer, .int (nI sn), .int wl_time])), (wl_places, .inl (cI, 30, .inl g_2)), (wl_kinds, .inl (cI, 30, .inl g_3)), (wl_values, .inl (cI, 30, .inl g_4)), (wl_toldAt, .inl (cI, 30, .inl g_5)), (wl_untoldAt, .inl (cI, 30, .inl (upd f_untoldAt (Int32.toNatClampNeg (nI sn)) (-1))))] := hD
    generalize eg_6 : upd f_untoldAt (Int32.toNatClampNeg (nI sn)) (-1) = g_6 at hP hD
    refine lv_aload_n hx hb dX9_add_60 rfl (lv_at hl 1 rfl) ?_
    refine lv_dup hx hb dX9_add_61 rfl ?_
    refine va_get (D := D) (ci := 9) (v := .int (nI sn)) (C := RX9) (T := TX9) (N := 10) hx hb hts (by decide +kernel) hown hK hP 0 rfl rfl 8 (by decide) (hts (.fieldLink RX9 37 "LastLetter$Wall" "sounds" "I") (by decide +kernel)) (fun _ h9 => h9) rfl dX9_add_62 ?_
    refine lv_iconst (v := 1) hx hb dX9_add_65 (by decide) ?_
    refine lv_iadd hx hb dX9_add_66 ?_
    refine xb_top (y := nI (sn + 1)) (nI_add sn 1) ?_
    refine va_put (D := D) (ci := 9) (v := .int (nI (sn + 1))) (ty := .int) (C := RX9) (T := TX9) (N := 10) hx hb hts (by decide +kernel) tyX9 tyX9_ok nmX9 hown hK hP hD hS 0 rfl rfl 8 (by decide) (hts (.fieldLink RX9 37 "LastLetter$Wall" "sounds" "I") (by decide +kernel)) (fun _ h9 => h9) rfl (by decide +kernel) rfl rfl (Nat.le_of_ble_eq_true rfl) dX9_add_67 (fun H locs hP hD hS => ?_)
    have hP : va_P D vwCl [(o, .inr (9, [.ref wl_places, .ref wl_kinds, .ref wl_values, .ref wl_toldAt, .ref wl_untoldAt, .ref wl_standing, .ref wl_rows, .ref wl_longer, .int (nI (sn + 1)), .int wl_time])), (wl_places, .inl (cI, 30, .inl g_2)), (wl_kinds, .inl (cI, 30, .inl g_3)), (wl_values, .inl (cI, 30, .inl g_4)), (wl_toldAt, .inl (cI, 30, .inl g_5)), (wl_untoldAt, .inl (cI, 30, .inl g_6))] H := hP
    have hD : va_D A [(o, .inr (9, [.ref wl_places, .ref wl_kinds, .ref wl_values, .ref wl_toldAt, .ref wl_untoldAt, .ref wl_standing, .ref wl_rows, .ref wl_longer, .int (nI (sn + 1)), .int wl_time])), (wl_places, .inl (cI, 30, .inl g_2)), (wl_kinds, .inl (cI, 30, .inl g_3)), (wl_values, .inl (cI, 30, .inl g_4)), (wl_toldAt, .inl (cI, 30, .inl g_5)), (wl_untoldAt, .inl (cI, 30, .inl g_6))] := hD
    refine lv_iload hx hb dX9_add_70 (lv_at hl 0 rfl) ?_
    have hP9 := hP.sub (ws' := [(o, .inr (9, [.ref wl_places, .ref wl_kinds, .ref wl_values, .ref wl_toldAt, .ref wl_untoldAt, .ref wl_standing, .ref wl_rows, .ref wl_longer, .int (nI (sn + 1)), .int wl_time])), (wl_places, .inl (cI, 30, .inl g_2)), (wl_kinds, .inl (cI, 30, .inl g_3)), (wl_values, .inl (cI, 30, .inl g_4)), (wl_toldAt, .inl (cI, 30, .inl g_5)), (wl_untoldAt, .inl (cI, 30, .inl g_6))]) [0, 1, 2, 3, 4, 5] rfl
    have hD9 := hD.sub (ws' := [(o, .inr (9, [.ref wl_places, .ref wl_kinds, .ref wl_values, .ref wl_toldAt, .ref wl_untoldAt, .ref wl_standing, .ref wl_rows, .ref wl_longer, .int (nI (sn + 1)), .int wl_time])), (wl_places, .inl (cI, 30, .inl g_2)), (wl_kinds, .inl (cI, 30, .inl g_3)), (wl_values, .inl (cI, 30, .inl g_4)), (wl_toldAt, .inl (cI, 30, .inl g_5)), (wl_untoldAt, .inl (cI, 30, .inl g_6))]) [0, 1, 2, 3, 4, 5] (by decide) rfl
    refine W.widen (k := 0) (n := 0) (Nat.le_of_ble_eq_true rfl) (Nat.le_of_ble_eq_true rfl) ?_
    exact W.iret (v := nI sn) hx hb hr (fun tz htz hWz => ⟨⟨nI sn, [(o, .inr (9, [.ref wl_places, .ref wl_kinds, .ref wl_values, .ref wl_toldAt, .ref wl_untoldAt, .ref wl_standing, .ref wl_rows, .ref wl_longer, .int (nI (sn + 1)), .int wl_time])), (wl_places, .inl (cI, 30, .inl g_2)), (wl_kinds, .inl (cI, 30, .inl g_3)), (wl_values, .inl (cI, 30, .inl g_4)), (wl_toldAt, .inl (cI, 30, .inl g_5)), (wl_untoldAt, .inl (cI, 30, .inl g_6))], rfl, ⟨(sn + 1), g_2, g_3, g_4, g_5, g_6, rfl, (by omega), (rgN_push hpl hp1 (by omega) eg_2), (vv_push hvv hv (by omega) eg_3 eg_4)⟩, by rw [htz]; exact hP9, va_K.moved hWz.alike hK, hD9⟩, hS.F htz⟩) hS.2.2 dX9_add_72
  · have dc_1 : ¬ sn < 30 := fun h => c_1 ((nI_ltI (a := sn) (b := 30) (by omega) (by omega)).mpr h)
    refine lv_iconst (v := (-1)) hx hb dX9_add_9 (by decide) ?_
    have hP9 := hP.sub (ws' := [(o, .inr (9, [.ref wl_places, .ref wl_kinds, .ref wl_values, .ref wl_toldAt, .ref wl_untoldAt, .ref wl_standing, .ref wl_rows, .ref wl_longer, .int (nI sn), .int wl_time])), (wl_places, .inl (cI, 30, .inl f_places)), (wl_kinds, .inl (cI, 30, .inl f_kinds)), (wl_values, .inl (cI, 30, .inl f_values)), (wl_toldAt, .inl (cI, 30, .inl f_toldAt)), (wl_untoldAt, .inl (cI, 30, .inl f_untoldAt))]) [0, 1, 2, 3, 4, 5] rfl
    have hD9 := hD.sub (ws' := [(o, .inr (9, [.ref wl_places, .ref wl_kinds, .ref wl_values, .ref wl_toldAt, .ref wl_untoldAt, .ref wl_standing, .ref wl_rows, .ref wl_longer, .int (nI sn), .int wl_time])), (wl_places, .inl (cI, 30, .inl f_places)), (wl_kinds, .inl (cI, 30, .inl f_kinds)), (wl_values, .inl (cI, 30, .inl f_values)), (wl_toldAt, .inl (cI, 30, .inl f_toldAt)), (wl_untoldAt, .inl (cI, 30, .inl f_untoldAt))]) [0, 1, 2, 3, 4, 5] (by decide) rfl
    refine W.widen (k := 0) (n := 0) (Nat.le_of_ble_eq_true rfl) (Nat.le_of_ble_eq_true rfl) ?_
    exact W.iret (v := (-1)) hx hb hr (fun tz htz hWz => ⟨⟨(-1), [(o, .inr (9, [.ref wl_places, .ref wl_kinds, .ref wl_values, .ref wl_toldAt, .ref wl_untoldAt, .ref wl_standing, .ref wl_rows, .ref wl_longer, .int (nI sn), .int wl_time])), (wl_places, .inl (cI, 30, .inl f_places)), (wl_kinds, .inl (cI, 30, .inl f_kinds)), (wl_values, .inl (cI, 30, .inl f_values)), (wl_toldAt, .inl (cI, 30, .inl f_toldAt)), (wl_untoldAt, .inl (cI, 30, .inl f_untoldAt))], rfl, ⟨sn, f_places, f_kinds, f_values, f_toldAt, f_untoldAt, rfl, hsn, hpl, hvv⟩, by rw [htz]; exact hP9, va_K.moved hWz.alike hK, hD9⟩, hS.F htz⟩) hS.2.2 dX9_add_10

set_option maxHeartbeats 4000000 in
set_option maxRecDepth 100000 in
theorem c_X9_takeBack (l : Launch) (D : va_G) (cB cI cJ cS cZ cO : ClassId) (sz : Nat) (o : Nat) (x : Int32) (wl_places : Nat) (wl_kinds : Nat) (wl_values : Nat) (wl_toldAt : Nat) (wl_untoldAt : Nat) (wl_standing : Nat) (wl_rows : Nat) (wl_longer : Nat) (sn : Nat) (wl_time : Int32) (f_untoldAt : Nat → Int32) (hsn : sn ≤ 30) : Met l yX9_takeBack wsX9_takeBack ({ frames := 0, cells := 0, slots := 0, locals := 0 }) (xPre D (tyL cB cI cJ cS cZ cO) [(o, .inr (9, [.ref wl_places, .ref wl_kinds, .ref wl_values, .ref wl_toldAt, .ref wl_untoldAt, .ref wl_standing, .ref wl_rows, .ref wl_longer, .int (nI sn), .int wl_time])), (wl_untoldAt, .inl (cI, 30, .inl f_untoldAt))] sz [.ref o, .int x]) (xQi D (tyL cB cI cJ cS cZ cO) (va_A [(o, .inr (9, [.ref wl_places, .ref wl_kinds, .ref wl_values, .ref wl_toldAt, .ref wl_untoldAt, .ref wl_standing, .ref wl_rows, .ref wl_longer, .int (nI sn), .int wl_time])), (wl_untoldAt, .inl (cI, 30, .inl f_untoldAt))] sz) (fun (r : Int32) (u : va_W) => ∃ g : Nat → Int32, u = [(o, .inr (9, [.ref wl_places, .ref wl_kinds, .ref wl_values, .ref wl_toldAt, .ref wl_untoldAt, .ref wl_standing, .ref wl_rows, .ref wl_longer, .int (nI sn), .int wl_time])), (wl_untoldAt, .inl (cI, 30, .inl g))] ∧ (r = 0 ∨ r = 1))) 0 0 (va_A [(o, .inr (9, [.ref wl_places, .ref wl_kinds, .ref wl_values, .ref wl_toldAt, .ref wl_untoldAt, .ref wl_standing, .ref wl_rows, .ref wl_longer, .int (nI sn), .int wl_time])), (wl_untoldAt, .inl (cI, 30, .inl f_untoldAt))] sz) := by
  refine Met.ofW (cc := cX9_takeBack) (maxL := 2) (ret := (some .boolean)) (by decide) rfl ?_
  intro p e s m args below meth c s₁ B hml hv
  obtain ⟨rfl, hsz, hP, hK, hD0, hN⟩ := hv
  have hx := B.exec
  have hb := B.bytes
  have hr := B.returns
  have hts := atoms_spec (ws := wsX9_takeBack) B.pre
  have hown : s.vm.findClass RX9 = some m.cls := findClass_of_methodNamed B.named
  have hlocks := B.notSynchronized
  subst hsz
  have hD := hD0.self (sz := s.heap.size)
  generalize hAe : va_A [(o, .inr (9, [.ref wl_places, .ref wl_kinds, .ref wl_values, .ref wl_toldAt, .ref wl_untoldAt, .ref wl_standing, .ref wl_rows, .ref wl_longer, .int (nI sn), .int wl_time])), (wl_untoldAt, .inl (cI, 30, .inl f_untoldAt))] s.heap.size = A at hD ⊢
  have hA : ∀ q : Nat, s.heap.size ≤ q → A q := fun q h => by rw [← hAe]; exact Or.inr h
  have hS : va_S A s.heap s.heap [] := va_S.rf
  have hP : va_P D vwCl [(o, .inr (9, [.ref wl_places, .ref wl_kinds, .ref wl_values, .ref wl_toldAt, .ref wl_untoldAt, .ref wl_standing, .ref wl_rows, .ref wl_longer, .int (nI sn), .int wl_time])), (wl_untoldAt, .inl (cI, 30, .inl f_untoldAt))] s.heap := hP
  have hl := lv_entry ([.ref o, .int x]) (n := 2) (Nat.le_of_ble_eq_true rfl)
  rw [lg_entry_eq]
  generalize (lg_sl ([.ref o, .int x]) ++ List.replicate (2 - (lg_sl ([.ref o, .int x])).length) Slot.unset).toArray = ls at hl ⊢
  have hl : lv_has ls 2 [(0, .ref o), (1, .int x)] := hl
  refine lv_iload_n hx hb dX9_takeBack_0 rfl (lv_at hl 1 rfl) ?_
  refine lv_if_lt (tgt := 22) hx hb dX9_takeBack_1 (by decide) (fun c_1 => ?_) (fun c_1 => ?_)
  · refine lv_iconst (v := 0) hx hb dX9_takeBack_22 (by decide) ?_
    have hP9 := hP.sub (ws' := [(o, .inr (9, [.ref wl_places, .ref wl_kinds, .ref wl_values, .ref wl_toldAt, .ref wl_untoldAt, .ref wl_standing, .ref wl_rows, .ref wl_longer, .int (nI sn), .int wl_time])), (wl_untoldAt, .inl (cI, 30, .inl f_untoldAt))]) [0, 1] rfl
    have hD9 := hD.sub (ws' := [(o, .inr (9, [.ref wl_places, .ref wl_kinds, .ref wl_values, .ref wl_toldAt, .ref wl_untoldAt, .ref wl_standing, .ref wl_rows, .ref wl_longer, .int (nI sn), .int wl_time])), (wl_untoldAt, .inl (cI, 30, .inl f_untoldAt))]) [0, 1] (by decide) rfl
    refine W.widen (k := 0) (n := 0) (Nat.le_of_ble_eq_true rfl) (Nat.le_of_ble_eq_true rfl) ?_
    exact W.zret (v := 0) hx hb hr (by decide) (fun tz htz hWz => ⟨⟨0, [(o, .inr (9, [.ref wl_places, .ref wl_kinds, .ref wl_values, .ref wl_toldAt, .ref wl_untoldAt, .ref wl_standing, .ref wl_rows, .ref wl_longer, .int (nI sn), .int wl_time])), (wl_untoldAt, .inl (cI, 30, .inl f_untoldAt))], rfl, ⟨f_untoldAt, rfl, (Or.inl rfl)⟩, by rw [htz]; exact hP9, va_K.moved hWz.alike hK, hD9⟩, hS.F htz⟩) hS.2.2 dX9_takeBack_23
  · refine lv_iload_n hx hb dX9_takeBack_4 rfl (lv_at hl 1 rfl) ?_
    refine lv_aload_n hx hb dX9_takeBack_5 rfl (lv_at hl 0 rfl) ?_
    refine va_get (D := D) (ci := 9) (v := .int (nI sn)) (C := RX9) (T := TX9) (N := 10) hx hb hts (by decide +kernel) hown hK hP 0 rfl rfl 8 (by decide) (hts (.fieldLink RX9 37 "LastLetter$Wall" "sounds" "I") (by decide +kernel)) (fun _ h9 => h9) rfl dX9_takeBack_6 ?_
    refine lv_icmp_ge (tgt := 22) hx hb dX9_takeBack_9 (by decide) (fun c_2 => ?_) (fun c_2 => ?_)
    · refine lv_iconst (v := 0) hx hb dX9_takeBack_22 (by decide) ?_
      have hP9 := hP.sub (ws' := [(o, .inr (9, [.ref wl_places, .ref wl_kinds, .ref wl_values, .ref wl_toldAt, .ref wl_untoldAt, .ref wl_standing, .ref wl_rows, .ref wl_longer, .int (nI sn), .int wl_time])), (wl_untoldAt, .inl (cI, 30, .inl f_untoldAt))]) [0, 1] rfl
      have hD9 := hD.sub (ws' := [(o, .inr (9, [.ref wl_places, .ref wl_kinds, .ref wl_values, .ref wl_toldAt, .ref wl_untoldAt, .ref wl_standing, .ref wl_rows, .ref wl_longer, .int (nI sn), .int wl_time])), (wl_untoldAt, .inl (cI, 30, .inl f_untoldAt))]) [0, 1] (by decide) rfl
      refine W.widen (k := 0) (n := 0) (Nat.le_of_ble_eq_true rfl) (Nat.le_of_ble_eq_true rfl) ?_
      exact W.zret (v := 0) hx hb hr (by decide) (fun tz htz hWz => ⟨⟨0, [(o, .inr (9, [.ref wl_places, .ref wl_kinds, .ref wl_values, .ref wl_toldAt, .ref wl_untoldAt, .ref wl_standing, .ref wl_rows, .ref wl_longer, .int (nI sn), .int wl_time])), (wl_untoldAt, .inl (cI, 30, .inl f_untoldAt))], rfl, ⟨f_untoldAt, rfl, (Or.inl rfl)⟩, by rw [htz]; exact hP9, va_K.moved hWz.alike hK, hD9⟩, hS.F htz⟩) hS.2.2 dX9_takeBack_23
    · refine lv_aload_n hx hb dX9_takeBack_12 rfl (lv_at hl 0 rfl) ?_
      refine va_get (D := D) (ci := 9) (v := .ref wl_untoldAt) (C := RX9) (T := TX9) (N := 10) hx hb hts (by decide +kernel) hown hK hP 0 rfl rfl 4 (by decide) (hts (.fieldLink RX9 24 "LastLetter$Wall" "untoldAt" "[I") (by decide +kernel)) (fun _ h9 => h9) rfl dX9_takeBack_13 ?_
      refine lv_iload_n hx hb dX9_takeBack_16 rfl (lv_at hl 1 rfl) ?_
      obtain ⟨q1, hq1, eq1⟩ := has_of c_1 c_2 (by omega)
      refine xb_top (y := nI q1) eq1 ?_
      refine va_iald hx hb hK hP 1 1 rfl rfl (vp_in_nI (by omega) (by omega)) dX9_takeBack_17 ?_
      refine xb_top (y := f_untoldAt q1) (by rw [nI_clamp (by omega)]) ?_
      refine lv_iconst (v := (-1)) hx hb dX9_takeBack_18 (by decide) ?_
      refine lv_icmp_eq (tgt := 24) hx hb dX9_takeBack_19 (by decide) (fun c_3 => ?_) (fun c_3 => ?_)
      · refine lv_aload_n hx hb dX9_takeBack_24 rfl (lv_at hl 0 rfl) ?_
        refine va_get (D := D) (ci := 9) (v := .ref wl_untoldAt) (C := RX9) (T := TX9) (N := 10) hx hb hts (by decide +kernel) hown hK hP 0 rfl rfl 4 (by decide) (hts (.fieldLink RX9 24 "LastLetter$Wall" "untoldAt" "[I") (by decide +kernel)) (fun _ h9 => h9) rfl dX9_takeBack_25 ?_
        refine lv_iload_n hx hb dX9_takeBack_28 rfl (lv_at hl 1 rfl) ?_
        refine lv_aload_n hx hb dX9_takeBack_29 rfl (lv_at hl 0 rfl) ?_
        refine va_get (D := D) (ci := 9) (v := .int wl_time) (C := RX9) (T := TX9) (N := 10) hx hb hts (by decide +kernel) hown hK hP 0 rfl rfl 9 (by decide) (hts (.fieldLink RX9 41 "LastLetter$Wall" "time" "I") (by decide +kernel)) (fun _ h9 => h9) rfl dX9_takeBack_30 ?_
        refine va_iast hx hb hK hP hD hS 1 1 rfl rfl (by rw [eq1]; exact vp_in_nI (by omega) (by decide)) dX9_takeBack_33 (fun H locs hP hD hS => ?_)
        have hP : va_P D vwCl [(o, .inr (9, [.ref wl_places, .ref wl_kinds, .ref wl_values, .ref wl_toldAt, .ref wl_untoldAt, .ref wl_standing, .ref wl_rows, .ref wl_longer, .int (nI sn), .int wl_time])), (wl_untoldAt, .inl (cI, 30, .inl (upd f_untoldAt (Int32.toNatClampNeg x) wl_time)))] H := hP
        have hD : va_D A [(o, .inr (9, [.ref wl_places, .ref wl_kinds, .ref wl_values, .ref wl_toldAt, .ref wl_untoldAt, .ref wl_standing, .ref wl_rows, .ref wl_longer, .int (nI sn), .int wl_time])), (wl_untoldAt, .inl (cI, 30, .inl (upd f_untoldAt (Int32.toNatClampNeg x) wl_time)))] := hD
        generalize eg_4 : upd f_untoldAt (Int32.toNatClampNeg x) wl_time = g_4 at hP hD
        refine lv_iconst (v := 1) hx hb dX9_takeBack_34 (by decide) ?_
        have hP9 := hP.sub (ws' := [(o, .inr (9, [.ref wl_places, .ref wl_kinds, .ref wl_values, .ref wl_toldAt, .ref wl_untoldAt, .ref wl_standing, .ref wl_rows, .ref wl_longer, .int (nI sn), .int wl_time])), (wl_untoldAt, .inl (cI, 30, .inl g_4))]) [0, 1] rfl
        have hD9 := hD.sub (ws' := [(o, .inr (9, [.ref wl_places, .ref wl_kinds, .ref wl_values, .ref wl_toldAt, .ref wl_untoldAt, .ref wl_standing, .ref wl_rows, .ref wl_longer, .int (nI sn), .int wl_time])), (wl_untoldAt, .inl (cI, 30, .inl g_4))]) [0, 1] (by decide) rfl
        refine W.widen (k := 0) (n := 0) (Nat.le_of_ble_eq_true rfl) (Nat.le_of_ble_eq_true rfl) ?_
        exact W.zret (v := 1) hx hb hr (by decide) (fun tz htz hWz => ⟨⟨1, [(o, .inr (9, [.ref wl_places, .ref wl_kinds, .ref wl_values, .ref wl_toldAt, .ref wl_untoldAt, .ref wl_standing, .ref wl_rows, .ref wl_longer, .int (nI sn), .int wl_time])), (wl_untoldAt, .inl (cI, 30, .inl g_4))], rfl, ⟨g_4, rfl, (Or.inr rfl)⟩, by rw [htz]; exact hP9, va_K.moved hWz.alike hK, hD9⟩, hS.F htz⟩) hS.2.2 dX9_takeBack_35
      · refine lv_iconst (v := 0) hx hb dX9_takeBack_22 (by decide) ?_
        have hP9 := hP.sub (ws' := [(o, .inr (9, [.ref wl_places, .ref wl_kinds, .ref wl_values, .ref wl_toldAt, .ref wl_untoldAt, .ref wl_standing, .ref wl_rows, .ref wl_longer, .int (nI sn), .int wl_time])), (wl_untoldAt, .inl (cI, 30, .inl f_untoldAt))]) [0, 1] rfl
        have hD9 := hD.sub (ws' := [(o, .inr (9, [.ref wl_places, .ref wl_kinds, .ref wl_values, .ref wl_toldAt, .ref wl_untoldAt, .ref wl_standing, .ref wl_rows, .ref wl_longer, .int (nI sn), .int wl_time])), (wl_untoldAt, .inl (cI, 30, .inl f_untoldAt))]) [0, 1] (by decide) rfl
        refine W.widen (k := 0) (n := 0) (Nat.le_of_ble_eq_true rfl) (Nat.le_of_ble_eq_true rfl) ?_
        exact W.zret (v := 0) hx hb hr (by decide) (fun tz htz hWz => ⟨⟨0, [(o, .inr (9, [.ref wl_places, .ref wl_kinds, .ref wl_values, .ref wl_toldAt, .ref wl_untoldAt, .ref wl_standing, .ref wl_rows, .ref wl_longer, .int (nI sn), .int wl_time])), (wl_untoldAt, .inl (cI, 30, .inl f_untoldAt))], rfl, ⟨f_untoldAt, rfl, (Or.inl rfl)⟩, by rw [htz]; exact hP9, va_K.moved hWz.alike hK, hD9⟩, hS.F htz⟩) hS.2.2 dX9_takeBack_23

set_option maxHeartbeats 4000000 in
set_option maxRecDepth 100000 in
theorem c_X9_wordsOf (l : Launch) (D : va_G) (cB cI cJ cS cZ cO : ClassId) (sz : Nat) (o : Nat) (t : Nat) (y : Int32) (x : Int32) (k_name : Nat) (k_worth : Nat) (k_times : Nat) (k_first : Nat) (k_second : Nat) (k_beforeLast : Nat) (k_last : Nat) (k_errandOf : Nat) (k_errandAfter : Nat) (k_sound : Nat) (k_followers : Nat) (k_leaders : Nat) (w : Nat) (k_errands : Int32) (k_alikes : Int32) (k_law : Int32) (f_first : Nat → Int32) (f_last : Nat → Int32) (f_sound : Nat → Int32) (hw : w ≤ 24) (hf : rgN f_first w 26) (hl1 : rgN f_last w 26) (hv : y = 0 ∨ ∃ q, q < 26 ∧ x = nI q) : Met l yX9_wordsOf wsX9_wordsOf ({ frames := 0, cells := 0, slots := 0, locals := 0 }) (xPre D (tyL cB cI cJ cS cZ cO) [(t, .inr (8, [.ref k_name, .ref k_worth, .ref k_times, .ref k_first, .ref k_second, .ref k_beforeLast, .ref k_last, .ref k_errandOf, .ref k_errandAfter, .ref k_sound, .ref k_followers, .ref k_leaders, .int (nI w), .int k_errands, .int k_alikes, .int k_law])), (k_first, .inl (cI, 24, .inl f_first)), (k_last, .inl (cI, 24, .inl f_last)), (k_sound, .inl (cI, 26, .inl f_sound))] sz [.ref o, .ref t, .int y, .int x]) (xQi D (tyL cB cI cJ cS cZ cO) (va_A [(t, .inr (8, [.ref k_name, .ref k_worth, .ref k_times, .ref k_first, .ref k_second, .ref k_beforeLast, .ref k_last, .ref k_errandOf, .ref k_errandAfter, .ref k_sound, .ref k_followers, .ref k_leaders, .int (nI w), .int k_errands, .int k_alikes, .int k_law])), (k_first, .inl (cI, 24, .inl f_first)), (k_last, .inl (cI, 24, .inl f_last)), (k_sound, .inl (cI, 26, .inl f_sound))] sz) (fun (r : Int32) (u : va_W) => u = [(t, .inr (8, [.ref k_name, .ref k_worth, .ref k_times, .ref k_first, .ref k_second, .ref k_beforeLast, .ref k_last, .ref k_errandOf, .ref k_errandAfter, .ref k_sound, .ref k_followers, .ref k_leaders, .int (nI w), .int k_errands, .int k_alikes, .int k_law])), (k_first, .inl (cI, 24, .inl f_first)), (k_last, .inl (cI, 24, .inl f_last)), (k_sound, .inl (cI, 26, .inl f_sound))])) 0 0 (va_A [(t, .inr (8, [.ref k_name, .ref k_worth, .ref k_times, .ref k_first, .ref k_second, .ref k_beforeLast, .ref k_last, .ref k_errandOf, .ref k_errandAfter, .ref k_sound, .ref k_followers, .ref k_leaders, .int (nI w), .int k_errands, .int k_alikes, .int k_law])), (k_first, .inl (cI, 24, .inl f_first)), (k_last, .inl (cI, 24, .inl f_last)), (k_sound, .inl (cI, 26, .inl f_sound))] sz) := by
  refine Met.ofW (cc := cX9_wordsOf) (maxL := 7) (ret := (some .int)) (by decide) rfl ?_
  intro p e s m args below meth c s₁ B hml hv
  obtain ⟨rfl, hsz, hP, hK, hD0, hN⟩ := hv
  have hx := B.exec
  have hb := B.bytes
  have hr := B.returns
  have hts := atoms_spec (ws := wsX9_wordsOf) B.pre
  have hown : s.vm.findClass RX9 = some m.cls := findClass_of_methodNamed B.named
  have hlocks := B.notSynchronized
  subst hsz
  have hD := hD0.self (sz := s.heap.size)
  generalize hAe : va_A [(t, .inr (8, [.ref k_name, .ref k_worth, .ref k_times, .ref k_first, .ref k_second, .ref k_beforeLast, .ref k_last, .ref k_errandOf, .ref k_errandAfter, .ref k_sound, .ref k_followers, .ref k_leaders, .int (nI w), .int k_errands, .int k_alikes, .int k_law])), (k_first, .inl (cI, 24, .inl f_first)), (k_last, .inl (cI, 24, .inl f_last)), (k_sound, .inl (cI, 26, .inl f_sound))] s.heap.size = A at hD ⊢
  have hA : ∀ q : Nat, s.heap.size ≤ q → A q := fun q h => by rw [← hAe]; exact Or.inr h
  have hS : va_S A s.heap s.heap [] := va_S.rf
  have hP : va_P D vwCl [(t, .inr (8, [.ref k_name, .ref k_worth, .ref k_times, .ref k_first, .ref k_second, .ref k_beforeLast, .ref k_last, .ref k_errandOf, .ref k_errandAfter, .ref k_sound, .ref k_followers, .ref k_leaders, .int (nI w), .int k_errands, .int k_alikes, .int k_law])), (k_first, .inl (cI, 24, .inl f_first)), (k_last, .inl (cI, 24, .inl f_last)), (k_sound, .inl (cI, 26, .inl f_sound))] s.heap := hP
  have hl := lv_entry ([.ref o, .ref t, .int y, .int x]) (n := 7) (Nat.le_of_ble_eq_true rfl)
  rw [lg_entry_eq]
  generalize (lg_sl ([.ref o, .ref t, .int y, .int x]) ++ List.replicate (7 - (lg_sl ([.ref o, .ref t, .int y, .int x])).length) Slot.unset).toArray = ls at hl ⊢
  have hl : lv_has ls 7 [(0, .ref o), (1, .ref t), (2, .int y), (3, .int x)] := hl
  refine lv_iload_n hx hb dX9_wordsOf_0 rfl (lv_at hl 2 rfl) ?_
  refine lv_if_ne (tgt := 8) hx hb dX9_wordsOf_1 (by decide) (fun c_1 => ?_) (fun c_1 => ?_)
  · obtain ⟨q1, hq1, rfl⟩ := hv.resolve_left c_1
    refine lv_iload_n hx hb dX9_wordsOf_8 rfl (lv_at hl 2 rfl) ?_
    refine lv_iconst (v := 1) hx hb dX9_wordsOf_9 (by decide) ?_
    refine lv_icmp_ne (tgt := 20) hx hb dX9_wordsOf_10 (by decide) (fun c_2 => ?_) (fun c_2 => ?_)
    · refine lv_aload_n hx hb dX9_wordsOf_20 rfl (lv_at hl 1 rfl) ?_
      refine va_getN (D := D) (ci := 8) (v := .ref k_last) (C := RX8) (T := TX8) (N := 16) hx hb hts (by decide +kernel) hown hK hP 0 rfl rfl 6 (by decide) (va_Nw.use rfl (hN.1 (RX9, 96, RX8, "last", "[I", RX10) (by decide +kernel))) (fun _ h9 => h9) rfl dX9_wordsOf_21 ?_
      refine lv_astore (lv' := [(4, .ref k_last), (0, .ref o), (1, .ref t), (2, .int y), (3, .int (nI q1))]) hx hb dX9_wordsOf_24 hl (by decide) rfl (fun ls hl => ?_)
      refine lv_iconst (v := 0) hx hb dX9_wordsOf_26 (by decide) ?_
      refine lv_istore (lv' := [(5, .int 0), (4, .ref k_last), (0, .ref o), (1, .ref t), (2, .int y), (3, .int (nI q1))]) hx hb dX9_wordsOf_27 hl (by decide) rfl (fun ls hl => ?_)
      refine lv_iconst (v := 0) hx hb dX9_wordsOf_29 (by decide) ?_
      refine lv_istore (lv' := [(6, .int 0), (5, .int 0), (4, .ref k_last), (0, .ref o), (1, .ref t), (2, .int y), (3, .int (nI q1))]) hx hb dX9_wordsOf_30 hl (by decide) rfl (fun ls hl => ?_)
      refine xb_wh (fun (n9 : Nat) H locs ls => ∃ i : Nat, ∃ bits : Int32, (w - i) = n9 ∧ va_P D vwCl [(t, .inr (8, [.ref k_name, .ref k_worth, .ref k_times, .ref k_first, .ref k_second, .ref k_beforeLast, .ref k_last, .ref k_errandOf, .ref k_errandAfter, .ref k_sound, .ref k_followers, .ref k_leaders, .int (nI w), .int k_errands, .int k_alikes, .int k_law])), (k_first, .inl (cI, 24, .inl f_first)), (k_last, .inl (cI, 24, .inl f_last)), (k_sound, .inl (cI, 26, .inl f_sound))] H ∧ va_D A [(t, .inr (8, [.ref k_name, .ref k_worth, .ref k_times, .ref k_first, .ref k_second, .ref k_beforeLast, .ref k_last, .ref k_errandOf, .ref k_errandAfter, .ref k_sound, .ref k_followers, .ref k_leaders, .int (nI w), .int k_errands, .int k_alikes, .int k_law])), (k_first, .inl (cI, 24, .inl f_first)), (k_last, .inl (cI, 24, .inl f_last)), (k_sound, .inl (cI, 26, .inl f_sound))] ∧ va_S A s.heap H locs ∧ lv_has ls 7 [(6, .int (nI i)), (5, .int bits), (4, .ref k_last), (0, .ref o), (1, .ref t), (2, .int y), (3, .int (nI q1))] ∧ (i ≤ w)) ⟨0, 0, rfl, hP, hD, hS, lv_sub hl [0, 1, 2, 3, 4, 5, 6] rfl, (by first | assumption | omega)⟩ (fun n9 H locs ls hI kk_32 => ?_)
      obtain ⟨i, bits, hn_32, hP, hD, hS, hl, hF_h_3⟩ := hI
      refine lv_iload hx hb dX9_wordsOf_32 (lv_at hl 0 rfl) ?_
      refine lv_aload_n hx hb dX9_wordsOf_34 rfl (lv_at hl 4 rfl) ?_
      refine va_getN (D := D) (ci := 8) (v := .int (nI w)) (C := RX8) (T := TX8) (N := 16) hx hb hts (by decide +kernel) hown hK hP 0 rfl rfl 12 (by decide) (va_Nw.use rfl (hN.1 (RX9, 48, RX8, "words", "I", RX10) (by decide +kernel))) (fun _ h9 => h9) rfl dX9_wordsOf_35 ?_
      refine lv_icmp_ge (tgt := 75) hx hb dX9_wordsOf_38 (by decide) (fun c_4 => ?_) (fun c_4 => ?_)
      · have dc_4 : w ≤ i := (nI_leI (a := w) (b := i) (by omega) (by omega)).mp c_4
        refine lv_iload hx hb dX9_wordsOf_75 (lv_at hl 1 rfl) ?_
        have hP9 := hP.sub (ws' := [(t, .inr (8, [.ref k_name, .ref k_worth, .ref k_times, .ref k_first, .ref k_second, .ref k_beforeLast, .ref k_last, .ref k_errandOf, .ref k_errandAfter, .ref k_sound, .ref k_followers, .ref k_leaders, .int (nI w), .int k_errands, .int k_alikes, .int k_law])), (k_first, .inl (cI, 24, .inl f_first)), (k_last, .inl (cI, 24, .inl f_last)), (k_sound, .inl (cI, 26, .inl f_sound))]) [0, 1, 2, 3] rfl
        have hD9 := hD.sub (ws' := [(t, .inr (8, [.ref k_name, .ref k_worth, .ref k_times, .ref k_first, .ref k_second, .ref k_beforeLast, .ref k_last, .ref k_errandOf, .ref k_errandAfter, .ref k_sound, .ref k_followers, .ref k_leaders, .int (nI w), .int k_errands, .int k_alikes, .int k_law])), (k_first, .inl (cI, 24, .inl f_first)), (k_last, .inl (cI, 24, .inl f_last)), (k_sound, .inl (cI, 26, .inl f_sound))]) [0, 1, 2, 3] (by decide) rfl
        refine W.widen (k := 0) (n := 0) (Nat.le_of_ble_eq_true rfl) (Nat.le_of_ble_eq_true rfl) ?_
        exact W.iret (v := bits) hx hb hr (fun tz htz hWz => ⟨⟨bits, [(t, .inr (8, [.ref k_name, .ref k_worth, .ref k_times, .ref k_first, .ref k_second, .ref k_beforeLast, .ref k_last, .ref k_errandOf, .ref k_errandAfter, .ref k_sound, .ref k_followers, .ref k_leaders, .int (nI w), .int k_errands, .int k_alikes, .int k_law])), (k_first, .inl (cI, 24, .inl f_first)), (k_last, .inl (cI, 24, .inl f_last)), (k_sound, .inl (cI, 26, .inl f_sound))], rfl, rfl, by rw [htz]; exact hP9, va_K.moved hWz.alike hK, hD9⟩, hS.F htz⟩) hS.2.2 dX9_wordsOf_77
      · have dc_4 : ¬ w ≤ i := fun h => c_4 ((nI_leI (a := w) (b := i) (by omega) (by omega)).mpr h)
        refine lv_aload_n hx hb dX9_wordsOf_41 rfl (lv_at hl 4 rfl) ?_
        refine va_getN (D := D) (ci := 8) (v := .ref k_sound) (C := RX8) (T := TX8) (N := 16) hx hb hts (by decide +kernel) hown hK hP 0 rfl rfl 9 (by decide) (va_Nw.use rfl (hN.1 (RX9, 99, RX8, "sound", "[I", RX10) (by decide +kernel))) (fun _ h9 => h9) rfl dX9_wordsOf_42 ?_
        refine lv_aload hx hb dX9_wordsOf_45 (lv_at hl 2 rfl) ?_
        refine lv_iload hx hb dX9_wordsOf_47 (lv_at hl 0 rfl) ?_
        refine va_iald hx hb hK hP 2 1 rfl rfl (vp_in_nI (by omega) (by omega)) dX9_wordsOf_49 ?_
        refine xb_top (y := f_last i) (by rw [nI_clamp (by omega)]) ?_
        obtain ⟨q_5, hq_5, eq_5⟩ := hl1 i (by omega)
        refine xb_top (y := nI q_5) eq_5 ?_
        refine va_iald hx hb hK hP 3 1 rfl rfl (vp_in_nI (by omega) (by omega)) dX9_wordsOf_50 ?_
        refine xb_top (y := f_sound q_5) (by rw [nI_clamp (by omega)]) ?_
        refine lv_aload_n hx hb dX9_wordsOf_51 rfl (lv_at hl 4 rfl) ?_
        refine va_getN (D := D) (ci := 8) (v := .ref k_sound) (C := RX8) (T := TX8) (N := 16) hx hb hts (by decide +kernel) hown hK hP 0 rfl rfl 9 (by decide) (va_Nw.use rfl (hN.1 (RX9, 99, RX8, "sound", "[I", RX10) (by decide +kernel))) (fun _ h9 => h9) rfl dX9_wordsOf_52 ?_
        refine lv_iload_n hx hb dX9_wordsOf_55 rfl (lv_at hl 6 rfl) ?_
        refine va_iald hx hb hK hP 3 1 rfl rfl (vp_in_nI (by omega) (by omega)) dX9_wordsOf_56 ?_
        refine xb_top (y := f_sound q1) (by rw [nI_clamp (by omega)]) ?_
        refine lv_icmp_ne (tgt := 69) hx hb dX9_wordsOf_57 (by decide) (fun c_6 => ?_) (fun c_6 => ?_)
        · refine lv_iinc (v := nI (i + 1)) (lv' := [(6, .int (nI (i + 1))), (5, .int bits), (4, .ref k_last), (0, .ref o), (1, .ref t), (2, .int y), (3, .int (nI q1))]) hx hb dX9_wordsOf_69 hl (k := 0) rfl (nI_1 i) (by decide) rfl (fun ls hl => ?_)
          refine lv_goto (tgt := 32) hx hb dX9_wordsOf_72 (by decide) ?_
          exact kk_32 _ _ _ _ (by rw [← hn_32]; omega) ⟨(i + 1), bits, rfl, hP, hD, hS, lv_sub hl [0, 1, 2, 3, 4, 5, 6] rfl, (by first | assumption | omega)⟩
        · refine lv_iload hx hb dX9_wordsOf_60 (lv_at hl 1 rfl) ?_
          refine lv_iconst (v := 1) hx hb dX9_wordsOf_62 (by decide) ?_
          refine lv_iload hx hb dX9_wordsOf_63 (lv_at hl 0 rfl) ?_
          refine lv_ishl hx hb dX9_wordsOf_65 ?_
          refine xb_top (y := nI (1 * 2 ^ i)) (nb_shl (a := 1) (i := i) (by omega)) ?_
          refine lv_ior hx hb dX9_wordsOf_66 ?_
          refine lv_topi (fun v_7 ev_7 => ?_)
          refine lv_istore (lv' := [(5, .int v_7), (6, .int (nI i)), (4, .ref k_last), (0, .ref o), (1, .ref t), (2, .int y), (3, .int (nI q1))]) hx hb dX9_wordsOf_67 hl (by decide) rfl (fun ls hl => ?_)
          refine lv_iinc (v := nI (i + 1)) (lv' := [(6, .int (nI (i + 1))), (5, .int v_7), (4, .ref k_last), (0, .ref o), (1, .ref t), (2, .int y), (3, .int (nI q1))]) hx hb dX9_wordsOf_69 hl (k := 1) rfl (nI_1 i) (by decide) rfl (fun ls hl => ?_)
          refine lv_goto (tgt := 32) hx hb dX9_wordsOf_72 (by decide) ?_
          exact kk_32 _ _ _ _ (by rw [← hn_32]; omega) ⟨(i + 1), v_7, rfl, hP, hD, hS, lv_sub hl [0, 1, 2, 3, 4, 5, 6] rfl, (by first | assumption | omega)⟩
    · refine lv_aload_n hx hb dX9_wordsOf_13 rfl (lv_at hl 1 rfl) ?_
      refine va_getN (D := D) (ci := 8) (v := .ref k_first) (C := RX8) (T := TX8) (N := 16) hx hb hts (by decide +kernel) hown hK hP 0 rfl rfl 3 (by decide) (va_Nw.use rfl (hN.1 (RX9, 93, RX8, "first", "[I", RX10) (by decide +kernel))) (fun _ h9 => h9) rfl dX9_wordsOf_14 ?_
      refine lv_goto (tgt := 24) hx hb dX9_wordsOf_17 (by decide) ?_
      refine lv_astore (lv' := [(4, .ref k_first), (0, .ref o), (1, .ref t), (2, .int y), (3, .int (nI q1))]) hx hb dX9_wordsOf_24 hl (by decide) rfl (fun ls hl => ?_)
      refine lv_iconst (v := 0) hx hb dX9_wordsOf_26 (by decide) ?_
      refine lv_istore (lv' := [(5, .int 0), (4, .ref k_first), (0, .ref o), (1, .ref t), (2, .int y), (3, .int (nI q1))]) hx hb dX9_wordsOf_27 hl (by decide) rfl (fun ls hl => ?_)
      refine lv_iconst (v := 0) hx hb dX9_wordsOf_29 (by decide) ?_
      refine lv_istore (lv' := [(6, .int 0), (5, .int 0), (4, .ref k_first), (0, .ref o), (1, .ref t), (2, .int y), (3, .int (nI q1))]) hx hb dX9_wordsOf_30 hl (by decide) rfl (fun ls hl => ?_)
      refine xb_wh (fun (n9 : Nat) H locs ls => ∃ i : Nat, ∃ bits : Int32, (w - i) = n9 ∧ va_P D vwCl [(t, .inr (8, [.ref k_name, .ref k_worth, .ref k_times, .ref k_first, .ref k_second, .ref k_beforeLast, .ref k_last, .ref k_errandOf, .ref k_errandAfter, .ref k_sound, .ref k_followers, .ref k_leaders, .int (nI w), .int k_errands, .int k_alikes, .int k_law])), (k_first, .inl (cI, 24, .inl f_first)), (k_last, .inl (cI, 24, .inl f_last)), (k_sound, .inl (cI, 26, .inl f_sound))] H ∧ va_D A [(t, .inr (8, [.ref k_name, .ref k_worth, .ref k_times, .ref k_first, .ref k_second, .ref k_beforeLast, .ref k_last, .ref k_errandOf, .ref k_errandAfter, .ref k_sound, .ref k_followers, .ref k_leaders, .int (nI w), .int k_errands, .int k_alikes, .int k_law])), (k_first, .inl (cI, 24, .inl f_first)), (k_last, .inl (cI, 24, .inl f_last)), (k_sound, .inl (cI, 26, .inl f_sound))] ∧ va_S A s.heap H locs ∧ lv_has ls 7 [(6, .int (nI i)), (5, .int bits), (4, .ref k_first), (0, .ref o), (1, .ref t), (2, .int y), (3, .int (nI q1))] ∧ (i ≤ w)) ⟨0, 0, rfl, hP, hD, hS, lv_sub hl [0, 1, 2, 3, 4, 5, 6] rfl, (by first | assumption | omega)⟩ (fun n9 H locs ls hI kk_32 => ?_)
      obtain ⟨i, bits, hn_32, hP, hD, hS, hl, hF_h_8⟩ := hI
      refine lv_iload hx hb dX9_wordsOf_32 (lv_at hl 0 rfl) ?_
      refine lv_aload_n hx hb dX9_wordsOf_34 rfl (lv_at hl 4 rfl) ?_
      refine va_getN (D := D) (ci := 8) (v := .int (nI w)) (C := RX8) (T := TX8) (N := 16) hx hb hts (by decide +kernel) hown hK hP 0 rfl rfl 12 (by decide) (va_Nw.use rfl (hN.1 (RX9, 48, RX8, "words", "I", RX10) (by decide +kernel))) (fun _ h9 => h9) rfl dX9_wordsOf_35 ?_
      refine lv_icmp_ge (tgt := 75) hx hb dX9_wordsOf_38 (by decide) (fun c_9 => ?_) (fun c_9 => ?_)
      · have dc_9 : w ≤ i := (nI_leI (a := w) (b := i) (by omega) (by omega)).mp c_9
        refine lv_iload hx hb dX9_wordsOf_75 (lv_at hl 1 rfl) ?_
        have hP9 := hP.sub (ws' := [(t, .inr (8, [.ref k_name, .ref k_worth, .ref k_times, .ref k_first, .ref k_second, .ref k_beforeLast, .ref k_last, .ref k_errandOf, .ref k_errandAfter, .ref k_sound, .ref k_followers, .ref k_leaders, .int (nI w), .int k_errands, .int k_alikes, .int k_law])), (k_first, .inl (cI, 24, .inl f_first)), (k_last, .inl (cI, 24, .inl f_last)), (k_sound, .inl (cI, 26, .inl f_sound))]) [0, 1, 2, 3] rfl
        have hD9 := hD.sub (ws' := [(t, .inr (8, [.ref k_name, .ref k_worth, .ref k_times, .ref k_first, .ref k_second, .ref k_beforeLast, .ref k_last, .ref k_errandOf, .ref k_errandAfter, .ref k_sound, .ref k_followers, .ref k_leaders, .int (nI w), .int k_errands, .int k_alikes, .int k_law])), (k_first, .inl (cI, 24, .inl f_first)), (k_last, .inl (cI, 24, .inl f_last)), (k_sound, .inl (cI, 26, .inl f_sound))]) [0, 1, 2, 3] (by decide) rfl
        refine W.widen (k := 0) (n := 0) (Nat.le_of_ble_eq_true rfl) (Nat.le_of_ble_eq_true rfl) ?_
        exact W.iret (v := bits) hx hb hr (fun tz htz hWz => ⟨⟨bits, [(t, .inr (8, [.ref k_name, .ref k_worth, .ref k_times, .ref k_first, .ref k_second, .ref k_beforeLast, .ref k_last, .ref k_errandOf, .ref k_errandAfter, .ref k_sound, .ref k_followers, .ref k_leaders, .int (nI w), .int k_errands, .int k_alikes, .int k_law])), (k_first, .inl (cI, 24, .inl f_first)), (k_last, .inl (cI, 24, .inl f_last)), (k_sound, .inl (cI, 26, .inl f_sound))], rfl, rfl, by rw [htz]; exact hP9, va_K.moved hWz.alike hK, hD9⟩, hS.F htz⟩) hS.2.2 dX9_wordsOf_77
      · have dc_9 : ¬ w ≤ i := fun h => c_9 ((nI_leI (a := w) (b := i) (by omega) (by omega)).mpr h)
        refine lv_aload_n hx hb dX9_wordsOf_41 rfl (lv_at hl 4 rfl) ?_
        refine va_getN (D := D) (ci := 8) (v := .ref k_sound) (C := RX8) (T := TX8) (N := 16) hx hb hts (by decide +kernel) hown hK hP 0 rfl rfl 9 (by decide) (va_Nw.use rfl (hN.1 (RX9, 99, RX8, "sound", "[I", RX10) (by decide +kernel))) (fun _ h9 => h9) rfl dX9_wordsOf_42 ?_
        refine lv_aload hx hb dX9_wordsOf_45 (lv_at hl 2 rfl) ?_
        refine lv_iload hx hb dX9_wordsOf_47 (lv_at hl 0 rfl) ?_
        refine va_iald hx hb hK hP 1 1 rfl rfl (vp_in_nI (by omega) (by omega)) dX9_wordsOf_49 ?_
        refine xb_top (y := f_first i) (by rw [nI_clamp (by omega)]) ?_
        obtain ⟨q_10, hq_10, eq_10⟩ := hf i (by omega)
        refine xb_top (y := nI q_10) eq_10 ?_
        refine va_iald hx hb hK hP 3 1 rfl rfl (vp_in_nI (by omega) (by omega)) dX9_wordsOf_50 ?_
        refine xb_top (y := f_sound q_10) (by rw [nI_clamp (by omega)]) ?_
        refine lv_aload_n hx hb dX9_wordsOf_51 rfl (lv_at hl 4 rfl) ?_
        refine va_getN (D := D) (ci := 8) (v := .ref k_sound) (C := RX8) (T := TX8) (N := 16) hx hb hts (by decide +kernel) hown hK hP 0 rfl rfl 9 (by decide) (va_Nw.use rfl (hN.1 (RX9, 99, RX8, "sound", "[I", RX10) (by decide +kernel))) (fun _ h9 => h9) rfl dX9_wordsOf_52 ?_
        refine lv_iload_n hx hb dX9_wordsOf_55 rfl (lv_at hl 6 rfl) ?_
        refine va_iald hx hb hK hP 3 1 rfl rfl (vp_in_nI (by omega) (by omega)) dX9_wordsOf_56 ?_
        refine xb_top (y := f_sound q1) (by rw [nI_clamp (by omega)]) ?_
        refine lv_icmp_ne (tgt := 69) hx hb dX9_wordsOf_57 (by decide) (fun c_11 => ?_) (fun c_11 => ?_)
        · refine lv_iinc (v := nI (i + 1)) (lv' := [(6, .int (nI (i + 1))), (5, .int bits), (4, .ref k_first), (0, .ref o), (1, .ref t), (2, .int y), (3, .int (nI q1))]) hx hb dX9_wordsOf_69 hl (k := 0) rfl (nI_1 i) (by decide) rfl (fun ls hl => ?_)
          refine lv_goto (tgt := 32) hx hb dX9_wordsOf_72 (by decide) ?_
          exact kk_32 _ _ _ _ (by rw [← hn_32]; omega) ⟨(i + 1), bits, rfl, hP, hD, hS, lv_sub hl [0, 1, 2, 3, 4, 5, 6] rfl, (by first | assumption | omega)⟩
        · refine lv_iload hx hb dX9_wordsOf_60 (lv_at hl 1 rfl) ?_
          refine lv_iconst (v := 1) hx hb dX9_wordsOf_62 (by decide) ?_
          refine lv_iload hx hb dX9_wordsOf_63 (lv_at hl 0 rfl) ?_
          refine lv_ishl hx hb dX9_wordsOf_65 ?_
          refine xb_top (y := nI (1 * 2 ^ i)) (nb_shl (a := 1) (i := i) (by omega)) ?_
          refine lv_ior hx hb dX9_wordsOf_66 ?_
          refine lv_topi (fun v_12 ev_12 => ?_)
          refine lv_istore (lv' := [(5, .int v_12), (6, .int (nI i)), (4, .ref k_first), (0, .ref o), (1, .ref t), (2, .int y), (3, .int (nI q1))]) hx hb dX9_wordsOf_67 hl (by decide) rfl (fun ls hl => ?_)
          refine lv_iinc (v := nI (i + 1)) (lv' := [(6, .int (nI (i + 1))), (5, .int v_12), (4, .ref k_first), (0, .ref o), (1, .ref t), (2, .int y), (3, .int (nI q1))]) hx hb dX9_wordsOf_69 hl (k := 1) rfl (nI_1 i) (by decide) rfl (fun ls hl => ?_)
          refine lv_goto (tgt := 32) hx hb dX9_wordsOf_72 (by decide) ?_
          exact kk_32 _ _ _ _ (by rw [← hn_32]; omega) ⟨(i + 1), v_12, rfl, hP, hD, hS, lv_sub hl [0, 1, 2, 3, 4, 5, 6] rfl, (by first | assumption | omega)⟩
  · refine lv_iconst (v := 1) hx hb dX9_wordsOf_4 (by decide) ?_
    refine lv_iload_n hx hb dX9_wordsOf_5 rfl (lv_at hl 3 rfl) ?_
    refine lv_ishl hx hb dX9_wordsOf_6 ?_
    have hP9 := hP.sub (ws' := [(t, .inr (8, [.ref k_name, .ref k_worth, .ref k_times, .ref k_first, .ref k_second, .ref k_beforeLast, .ref k_last, .ref k_errandOf, .ref k_errandAfter, .ref k_sound, .ref k_followers, .ref k_leaders, .int (nI w), .int k_errands, .int k_alikes, .int k_law])), (k_first, .inl (cI, 24, .inl f_first)), (k_last, .inl (cI, 24, .inl f_last)), (k_sound, .inl (cI, 26, .inl f_sound))]) [0, 1, 2, 3] rfl
    have hD9 := hD.sub (ws' := [(t, .inr (8, [.ref k_name, .ref k_worth, .ref k_times, .ref k_first, .ref k_second, .ref k_beforeLast, .ref k_last, .ref k_errandOf, .ref k_errandAfter, .ref k_sound, .ref k_followers, .ref k_leaders, .int (nI w), .int k_errands, .int k_alikes, .int k_law])), (k_first, .inl (cI, 24, .inl f_first)), (k_last, .inl (cI, 24, .inl f_last)), (k_sound, .inl (cI, 26, .inl f_sound))]) [0, 1, 2, 3] (by decide) rfl
    refine W.widen (k := 0) (n := 0) (Nat.le_of_ble_eq_true rfl) (Nat.le_of_ble_eq_true rfl) ?_
    exact W.iret (v := 1 <<< (x &&& 31)) hx hb hr (fun tz htz hWz => ⟨⟨1 <<< (x &&& 31), [(t, .inr (8, [.ref k_name, .ref k_worth, .ref k_times, .ref k_first, .ref k_second, .ref k_beforeLast, .ref k_last, .ref k_errandOf, .ref k_errandAfter, .ref k_sound, .ref k_followers, .ref k_leaders, .int (nI w), .int k_errands, .int k_alikes, .int k_law])), (k_first, .inl (cI, 24, .inl f_first)), (k_last, .inl (cI, 24, .inl f_last)), (k_sound, .inl (cI, 26, .inl f_sound))], rfl, rfl, by rw [htz]; exact hP9, va_K.moved hWz.alike hK, hD9⟩, hS.F htz⟩) hS.2.2 dX9_wordsOf_7

set_option maxHeartbeats 4000000 in
set_option maxRecDepth 100000 in
theorem c_X9_gathered (l : Launch) (D : va_G) (cB cI cJ cS cZ cO : ClassId) (sz : Nat) (o : Nat) (a : Nat) (x : Int32) (w : Nat) (f : Nat → Int32) (hw : w ≤ 24) : Met l yX9_gathered wsX9_gathered ({ frames := 1, cells := 0, slots := 0, locals := 21 }) (xPre D (tyL cB cI cJ cS cZ cO) [(a, .inl (cI, 24, .inl f))] sz [.ref o, .ref a, .int x, .int (nI w)]) (xQi D (tyL cB cI cJ cS cZ cO) (va_A [(a, .inl (cI, 24, .inl f))] sz) (fun (r : Int32) (u : va_W) => u = [(a, .inl (cI, 24, .inl f))])) 0 0 (va_A [(a, .inl (cI, 24, .inl f))] sz) := by
  refine Met.ofW (cc := cX9_gathered) (maxL := 6) (ret := (some .int)) (by decide) rfl ?_
  intro p e s m args below meth c s₁ B hml hv
  obtain ⟨rfl, hsz, hP, hK, hD0, hN⟩ := hv
  have hx := B.exec
  have hb := B.bytes
  have hr := B.returns
  have hts := atoms_spec (ws := wsX9_gathered) B.pre
  have hown : s.vm.findClass RX9 = some m.cls := findClass_of_methodNamed B.named
  have hlocks := B.notSynchronized
  subst hsz
  have hD := hD0.self (sz := s.heap.size)
  generalize hAe : va_A [(a, .inl (cI, 24, .inl f))] s.heap.size = A at hD ⊢
  have hA : ∀ q : Nat, s.heap.size ≤ q → A q := fun q h => by rw [← hAe]; exact Or.inr h
  have hS : va_S A s.heap s.heap [] := va_S.rf
  have hP : va_P D vwCl [(a, .inl (cI, 24, .inl f))] s.heap := hP
  have hl := lv_entry ([.ref o, .ref a, .int x, .int (nI w)]) (n := 6) (Nat.le_of_ble_eq_true rfl)
  rw [lg_entry_eq]
  generalize (lg_sl ([.ref o, .ref a, .int x, .int (nI w)]) ++ List.replicate (6 - (lg_sl ([.ref o, .ref a, .int x, .int (nI w)])).length) Slot.unset).toArray = ls at hl ⊢
  have hl : lv_has ls 6 [(0, .ref o), (1, .ref a), (2, .int x), (3, .int (nI w))] := hl
  refine lv_iconst (v := 0) hx hb dX9_gathered_0 (by decide) ?_
  refine lv_istore (lv' := [(4, .int 0), (0, .ref o), (1, .ref a), (2, .int x), (3, .int (nI w))]) hx hb dX9_gathered_1 hl (by decide) rfl (fun ls hl => ?_)
  refine lv_iconst (v := 0) hx hb dX9_gathered_3 (by decide) ?_
  refine lv_istore (lv' := [(5, .int 0), (4, .int 0), (0, .ref o), (1, .ref a), (2, .int x), (3, .int (nI w))]) hx hb dX9_gathered_4 hl (by decide) rfl (fun ls hl => ?_)
  refine xb_wh (fun (n9 : Nat) H locs ls => ∃ i : Nat, ∃ bits : Int32, (w - i) = n9 ∧ va_P D vwCl [(a, .inl (cI, 24, .inl f))] H ∧ va_D A [(a, .inl (cI, 24, .inl f))] ∧ va_S A s.heap H locs ∧ lv_has ls 6 [(5, .int (nI i)), (4, .int bits), (0, .ref o), (1, .ref a), (2, .int x), (3, .int (nI w))] ∧ (i ≤ w)) ⟨0, 0, rfl, hP, hD, hS, lv_sub hl [0, 1, 2, 3, 4, 5] rfl, (by first | assumption | omega)⟩ (fun n9 H locs ls hI kk_6 => ?_)
  obtain ⟨i, bits, hn_6, hP, hD, hS, hl, hF_h_1⟩ := hI
  refine lv_iload hx hb dX9_gathered_6 (lv_at hl 0 rfl) ?_
  refine lv_iload_n hx hb dX9_gathered_8 rfl (lv_at hl 5 rfl) ?_
  refine lv_icmp_ge (tgt := 36) hx hb dX9_gathered_9 (by decide) (fun c_2 => ?_) (fun c_2 => ?_)
  · have dc_2 : w ≤ i := (nI_leI (a := w) (b := i) (by omega) (by omega)).mp c_2
    refine lv_iload hx hb dX9_gathered_36 (lv_at hl 1 rfl) ?_
    have hP9 := hP.sub (ws' := [(a, .inl (cI, 24, .inl f))]) [0] rfl
    have hD9 := hD.sub (ws' := [(a, .inl (cI, 24, .inl f))]) [0] (by decide) rfl
    refine W.widen (k := 0) (n := 0) (Nat.le_of_ble_eq_true rfl) (Nat.le_of_ble_eq_true rfl) ?_
    exact W.iret (v := bits) hx hb hr (fun tz htz hWz => ⟨⟨bits, [(a, .inl (cI, 24, .inl f))], rfl, rfl, by rw [htz]; exact hP9, va_K.moved hWz.alike hK, hD9⟩, hS.F htz⟩) hS.2.2 dX9_gathered_38
  · have dc_2 : ¬ w ≤ i := fun h => c_2 ((nI_leI (a := w) (b := i) (by omega) (by omega)).mpr h)
    refine lv_iload_n hx hb dX9_gathered_12 rfl (lv_at hl 4 rfl) ?_
    refine lv_iload hx hb dX9_gathered_13 (lv_at hl 0 rfl) ?_
    refine xCi (wr := [(a, .inl (cI, 24, .inl f))]) (win := []) hP hD hS hA [] [0] rfl rfl (by decide) (by decide) (va_runSN (As := [.int x, .int (nI i)]) (rest := []) ⟨hx, hb, hml, hown, hts⟩ (c_X10_isIn l D cB cI cJ cS cZ cO H.size x (nI i) ) ⟨va_cnB 2 hts gX9_gathered_X10_isIn_n53 rfl rfl rfl (hN.2.1 (RX9, 53, yX10_isIn, RX10) (by decide +kernel)) (hts (.initialized RX10) (by decide +kernel)) (by decide +kernel) ⟨Nat.le_of_ble_eq_true rfl, Nat.le_of_ble_eq_true rfl⟩, hts (.static yX10_isIn) (by decide +kernel), trivial⟩ (xPreS (win := []) hN hK hP hD [] (by decide) rfl) rfl rfl hl.1 rfl (lv_room (Nat.le_of_ble_eq_true rfl)) dX9_gathered_15 ⟨Nat.le_of_ble_eq_true rfl, Nat.le_of_ble_eq_true rfl⟩) (fun r_3 w0 H locs hw hP hD hS => ?_)
    obtain ⟨rfl, hf_4⟩ := hw
    have hP : va_P D vwCl [(a, .inl (cI, 24, .inl f))] H := hP
    have hD : va_D A [(a, .inl (cI, 24, .inl f))] := hD
    refine lv_if_eq (tgt := 30) hx hb dX9_gathered_18 (by decide) (fun c_5 => ?_) (fun c_5 => ?_)
    · refine lv_iinc (v := nI (i + 1)) (lv' := [(5, .int (nI (i + 1))), (4, .int bits), (0, .ref o), (1, .ref a), (2, .int x), (3, .int (nI w))]) hx hb dX9_gathered_30 hl (k := 0) rfl (nI_1 i) (by decide) rfl (fun ls hl => ?_)
      refine lv_goto (tgt := 6) hx hb dX9_gathered_33 (by decide) ?_
      exact kk_6 _ _ _ _ (by rw [← hn_6]; omega) ⟨(i + 1), bits, rfl, hP, hD, hS, lv_sub hl [0, 1, 2, 3, 4, 5] rfl, (by first | assumption | omega)⟩
    · refine lv_iload hx hb dX9_gathered_21 (lv_at hl 1 rfl) ?_
      refine lv_aload_n hx hb dX9_gathered_23 rfl (lv_at hl 3 rfl) ?_
      refine lv_iload hx hb dX9_gathered_24 (lv_at hl 0 rfl) ?_
      refine va_iald hx hb hK hP 0 1 rfl rfl (vp_in_nI (by omega) (by omega)) dX9_gathered_26 ?_
      refine xb_top (y := f i) (by rw [nI_clamp (by omega)]) ?_
      refine lv_ior hx hb dX9_gathered_27 ?_
      refine lv_istore (lv' := [(4, .int (bits ||| (f i))), (5, .int (nI i)), (0, .ref o), (1, .ref a), (2, .int x), (3, .int (nI w))]) hx hb dX9_gathered_28 hl (by decide) rfl (fun ls hl => ?_)
      refine lv_iinc (v := nI (i + 1)) (lv' := [(5, .int (nI (i + 1))), (4, .int (bits ||| (f i))), (0, .ref o), (1, .ref a), (2, .int x), (3, .int (nI w))]) hx hb dX9_gathered_30 hl (k := 1) rfl (nI_1 i) (by decide) rfl (fun ls hl => ?_)
      refine lv_goto (tgt := 6) hx hb dX9_gathered_33 (by decide) ?_
      exact kk_6 _ _ _ _ (by rw [← hn_6]; omega) ⟨(i + 1), (bits ||| (f i)), rfl, hP, hD, hS, lv_sub hl [0, 1, 2, 3, 4, 5] rfl, (by first | assumption | omega)⟩

set_option maxHeartbeats 4000000 in
set_option maxRecDepth 100000 in
theorem c_X9_rowsInto (l : Launch) (D : va_G) (cB cI cJ cS cZ cO : ClassId) (sz : Nat) (o : Nat) (t : Nat) (k : Nat) (wl_places : Nat) (wl_kinds : Nat) (wl_values : Nat) (wl_toldAt : Nat) (wl_untoldAt : Nat) (wl_standing : Nat) (wl_rows : Nat) (wl_longer : Nat) (wl_sounds : Int32) (wl_time : Int32) (fr : Nat → Int64) (k_name : Nat) (k_worth : Nat) (k_times : Nat) (k_first : Nat) (k_second : Nat) (k_beforeLast : Nat) (k_last : Nat) (k_errandOf : Nat) (k_errandAfter : Nat) (k_sound : Nat) (k_followers : Nat) (k_leaders : Nat) (w : Nat) (k_errands : Int32) (k_alikes : Int32) (k_law : Int32) (f_leaders : Nat → Int32) (hw : w ≤ 24) (hk : k < w) : Met l yX9_rowsInto wsX9_rowsInto ({ frames := 1, cells := 0, slots := 0, locals := 21 }) (xPre D (tyL cB cI cJ cS cZ cO) [(o, .inr (9, [.ref wl_places, .ref wl_kinds, .ref wl_values, .ref wl_toldAt, .ref wl_untoldAt, .ref wl_standing, .ref wl_rows, .ref wl_longer, .int wl_sounds, .int wl_time])), (wl_rows, .inl (cJ, 24, .inr (.inl fr))), (t, .inr (8, [.ref k_name, .ref k_worth, .ref k_times, .ref k_first, .ref k_second, .ref k_beforeLast, .ref k_last, .ref k_errandOf, .ref k_errandAfter, .ref k_sound, .ref k_followers, .ref k_leaders, .int (nI w), .int k_errands, .int k_alikes, .int k_law])), (k_leaders, .inl (cI, 24, .inl f_leaders))] sz [.ref o, .ref t, .int (nI k)]) (xQl D (tyL cB cI cJ cS cZ cO) (va_A [(o, .inr (9, [.ref wl_places, .ref wl_kinds, .ref wl_values, .ref wl_toldAt, .ref wl_untoldAt, .ref wl_standing, .ref wl_rows, .ref wl_longer, .int wl_sounds, .int wl_time])), (wl_rows, .inl (cJ, 24, .inr (.inl fr))), (t, .inr (8, [.ref k_name, .ref k_worth, .ref k_times, .ref k_first, .ref k_second, .ref k_beforeLast, .ref k_last, .ref k_errandOf, .ref k_errandAfter, .ref k_sound, .ref k_followers, .ref k_leaders, .int (nI w), .int k_errands, .int k_alikes, .int k_law])), (k_leaders, .inl (cI, 24, .inl f_leaders))] sz) (fun (r : Int64) (u : va_W) => u = [(o, .inr (9, [.ref wl_places, .ref wl_kinds, .ref wl_values, .ref wl_toldAt, .ref wl_untoldAt, .ref wl_standing, .ref wl_rows, .ref wl_longer, .int wl_sounds, .int wl_time])), (wl_rows, .inl (cJ, 24, .inr (.inl fr))), (t, .inr (8, [.ref k_name, .ref k_worth, .ref k_times, .ref k_first, .ref k_second, .ref k_beforeLast, .ref k_last, .ref k_errandOf, .ref k_errandAfter, .ref k_sound, .ref k_followers, .ref k_leaders, .int (nI w), .int k_errands, .int k_alikes, .int k_law])), (k_leaders, .inl (cI, 24, .inl f_leaders))])) 0 0 (va_A [(o, .inr (9, [.ref wl_places, .ref wl_kinds, .ref wl_values, .ref wl_toldAt, .ref wl_untoldAt, .ref wl_standing, .ref wl_rows, .ref wl_longer, .int wl_sounds, .int wl_time])), (wl_rows, .inl (cJ, 24, .inr (.inl fr))), (t, .inr (8, [.ref k_name, .ref k_worth, .ref k_times, .ref k_first, .ref k_second, .ref k_beforeLast, .ref k_last, .ref k_errandOf, .ref k_errandAfter, .ref k_sound, .ref k_followers, .ref k_leaders, .int (nI w), .int k_errands, .int k_alikes, .int k_law])), (k_leaders, .inl (cI, 24, .inl f_leaders))] sz) := by
  refine Met.ofW (cc := cX9_rowsInto) (maxL := 6) (ret := (some .long)) (by decide) rfl ?_
  intro p e s m args below meth c s₁ B hml hv
  obtain ⟨rfl, hsz, hP, hK, hD0, hN⟩ := hv
  have hx := B.exec
  have hb := B.bytes
  have hr := B.returns
  have hts := atoms_spec (ws := wsX9_rowsInto) B.pre
  have hown : s.vm.findClass RX9 = some m.cls := findClass_of_methodNamed B.named
  have hlocks := B.notSynchronized
  subst hsz
  have hD := hD0.self (sz := s.heap.size)
  generalize hAe : va_A [(o, .inr (9, [.ref wl_places, .ref wl_kinds, .ref wl_values, .ref wl_toldAt, .ref wl_untoldAt, .ref wl_standing, .ref wl_rows, .ref wl_longer, .int wl_sounds, .int wl_time])), (wl_rows, .inl (cJ, 24, .inr (.inl fr))), (t, .inr (8, [.ref k_name, .ref k_worth, .ref k_times, .ref k_first, .ref k_second, .ref k_beforeLast, .ref k_last, .ref k_errandOf, .ref k_errandAfter, .ref k_sound, .ref k_followers, .ref k_leaders, .int (nI w), .int k_errands, .int k_alikes, .int k_law])), (k_leaders, .inl (cI, 24, .inl f_leaders))] s.heap.size = A at hD ⊢
  have hA : ∀ q : Nat, s.heap.size ≤ q → A q := fun q h => by rw [← hAe]; exact Or.inr h
  have hS : va_S A s.heap s.heap [] := va_S.rf
  have hP : va_P D vwCl [(o, .inr (9, [.ref wl_places, .ref wl_kinds, .ref wl_values, .ref wl_toldAt, .ref wl_untoldAt, .ref wl_standing, .ref wl_rows, .ref wl_longer, .int wl_sounds, .int wl_time])), (wl_rows, .inl (cJ, 24, .inr (.inl fr))), (t, .inr (8, [.ref k_name, .ref k_worth, .ref k_times, .ref k_first, .ref k_second, .ref k_beforeLast, .ref k_last, .ref k_errandOf, .ref k_errandAfter, .ref k_sound, .ref k_followers, .ref k_leaders, .int (nI w), .int k_errands, .int k_alikes, .int k_law])), (k_leaders, .inl (cI, 24, .inl f_leaders))] s.heap := hP
  have hl := lv_entry ([.ref o, .ref t, .int (nI k)]) (n := 6) (Nat.le_of_ble_eq_true rfl)
  rw [lg_entry_eq]
  generalize (lg_sl ([.ref o, .ref t, .int (nI k)]) ++ List.replicate (6 - (lg_sl ([.ref o, .ref t, .int (nI k)])).length) Slot.unset).toArray = ls at hl ⊢
  have hl : lv_has ls 6 [(0, .ref o), (1, .ref t), (2, .int (nI k))] := hl
  refine lv_lconst (v := 0) hx hb dX9_rowsInto_0 (by decide) ?_
  refine lv_lstore_n (lv' := [(3, .long 0), (0, .ref o), (1, .ref t), (2, .int (nI k))]) hx hb dX9_rowsInto_1 rfl hl (by decide) rfl (fun ls hl => ?_)
  refine lv_iconst (v := 0) hx hb dX9_rowsInto_2 (by decide) ?_
  refine lv_istore (lv' := [(5, .int 0), (3, .long 0), (0, .ref o), (1, .ref t), (2, .int (nI k))]) hx hb dX9_rowsInto_3 hl (by decide) rfl (fun ls hl => ?_)
  refine xb_wh (fun (n9 : Nat) H locs ls => ∃ i : Nat, ∃ su : Int64, (w - i) = n9 ∧ va_P D vwCl [(o, .inr (9, [.ref wl_places, .ref wl_kinds, .ref wl_values, .ref wl_toldAt, .ref wl_untoldAt, .ref wl_standing, .ref wl_rows, .ref wl_longer, .int wl_sounds, .int wl_time])), (wl_rows, .inl (cJ, 24, .inr (.inl fr))), (t, .inr (8, [.ref k_name, .ref k_worth, .ref k_times, .ref k_first, .ref k_second, .ref k_beforeLast, .ref k_last, .ref k_errandOf, .ref k_errandAfter, .ref k_sound, .ref k_followers, .ref k_leaders, .int (nI w), .int k_errands, .int k_alikes, .int k_law])), (k_leaders, .inl (cI, 24, .inl f_leaders))] H ∧ va_D A [(o, .inr (9, [.ref wl_places, .ref wl_kinds, .ref wl_values, .ref wl_toldAt, .ref wl_untoldAt, .ref wl_standing, .ref wl_rows, .ref wl_longer, .int wl_sounds, .int wl_time])), (wl_rows, .inl (cJ, 24, .inr (.inl fr))), (t, .inr (8, [.ref k_name, .ref k_worth, .ref k_times, .ref k_first, .ref k_second, .ref k_beforeLast, .ref k_last, .ref k_errandOf, .ref k_errandAfter, .ref k_sound, .ref k_followers, .ref k_leaders, .int (nI w), .int k_errands, .int k_alikes, .int k_law])), (k_leaders, .inl (cI, 24, .inl f_leaders))] ∧ va_S A s.heap H locs ∧ lv_has ls 6 [(5, .int (nI i)), (3, .long su), (0, .ref o), (1, .ref t), (2, .int (nI k))] ∧ (i ≤ w)) ⟨0, 0, rfl, hP, hD, hS, lv_sub hl [0, 1, 2, 3, 4] rfl, (by first | assumption | omega)⟩ (fun n9 H locs ls hI kk_5 => ?_)
  obtain ⟨i, su, hn_5, hP, hD, hS, hl, hF_h_1⟩ := hI
  refine lv_iload hx hb dX9_rowsInto_5 (lv_at hl 0 rfl) ?_
  refine lv_aload_n hx hb dX9_rowsInto_7 rfl (lv_at hl 3 rfl) ?_
  refine va_getN (D := D) (ci := 8) (v := .int (nI w)) (C := RX8) (T := TX8) (N := 16) hx hb hts (by decide +kernel) hown hK hP 2 rfl rfl 12 (by decide) (va_Nw.use rfl (hN.1 (RX9, 48, RX8, "words", "I", RX10) (by decide +kernel))) (fun _ h9 => h9) rfl dX9_rowsInto_8 ?_
  refine lv_icmp_ge (tgt := 44) hx hb dX9_rowsInto_11 (by decide) (fun c_2 => ?_) (fun c_2 => ?_)
  · have dc_2 : w ≤ i := (nI_leI (a := w) (b := i) (by omega) (by omega)).mp c_2
    refine lv_lload_n hx hb dX9_rowsInto_44 rfl (lv_at hl 1 rfl) ?_
    have hP9 := hP.sub (ws' := [(o, .inr (9, [.ref wl_places, .ref wl_kinds, .ref wl_values, .ref wl_toldAt, .ref wl_untoldAt, .ref wl_standing, .ref wl_rows, .ref wl_longer, .int wl_sounds, .int wl_time])), (wl_rows, .inl (cJ, 24, .inr (.inl fr))), (t, .inr (8, [.ref k_name, .ref k_worth, .ref k_times, .ref k_first, .ref k_second, .ref k_beforeLast, .ref k_last, .ref k_errandOf, .ref k_errandAfter, .ref k_sound, .ref k_followers, .ref k_leaders, .int (nI w), .int k_errands, .int k_alikes, .int k_law])), (k_leaders, .inl (cI, 24, .inl f_leaders))]) [0, 1, 2, 3] rfl
    have hD9 := hD.sub (ws' := [(o, .inr (9, [.ref wl_places, .ref wl_kinds, .ref wl_values, .ref wl_toldAt, .ref wl_untoldAt, .ref wl_standing, .ref wl_rows, .ref wl_longer, .int wl_sounds, .int wl_time])), (wl_rows, .inl (cJ, 24, .inr (.inl fr))), (t, .inr (8, [.ref k_name, .ref k_worth, .ref k_times, .ref k_first, .ref k_second, .ref k_beforeLast, .ref k_last, .ref k_errandOf, .ref k_errandAfter, .ref k_sound, .ref k_followers, .ref k_leaders, .int (nI w), .int k_errands, .int k_alikes, .int k_law])), (k_leaders, .inl (cI, 24, .inl f_leaders))]) [0, 1, 2, 3] (by decide) rfl
    refine W.widen (k := 0) (n := 0) (Nat.le_of_ble_eq_true rfl) (Nat.le_of_ble_eq_true rfl) ?_
    exact W.lret (v := su) hx hb hr (fun tz htz hWz => ⟨⟨su, [(o, .inr (9, [.ref wl_places, .ref wl_kinds, .ref wl_values, .ref wl_toldAt, .ref wl_untoldAt, .ref wl_standing, .ref wl_rows, .ref wl_longer, .int wl_sounds, .int wl_time])), (wl_rows, .inl (cJ, 24, .inr (.inl fr))), (t, .inr (8, [.ref k_name, .ref k_worth, .ref k_times, .ref k_first, .ref k_second, .ref k_beforeLast, .ref k_last, .ref k_errandOf, .ref k_errandAfter, .ref k_sound, .ref k_followers, .ref k_leaders, .int (nI w), .int k_errands, .int k_alikes, .int k_law])), (k_leaders, .inl (cI, 24, .inl f_leaders))], rfl, rfl, by rw [htz]; exact hP9, va_K.moved hWz.alike hK, hD9⟩, hS.F htz⟩) hS.2.2 dX9_rowsInto_45
  · have dc_2 : ¬ w ≤ i := fun h => c_2 ((nI_leI (a := w) (b := i) (by omega) (by omega)).mpr h)
    refine lv_aload_n hx hb dX9_rowsInto_14 rfl (lv_at hl 3 rfl) ?_
    refine va_getN (D := D) (ci := 8) (v := .ref k_leaders) (C := RX8) (T := TX8) (N := 16) hx hb hts (by decide +kernel) hown hK hP 2 rfl rfl 11 (by decide) (va_Nw.use rfl (hN.1 (RX9, 69, RX8, "leaders", "[I", RX10) (by decide +kernel))) (fun _ h9 => h9) rfl dX9_rowsInto_15 ?_
    refine lv_iload_n hx hb dX9_rowsInto_18 rfl (lv_at hl 4 rfl) ?_
    refine va_iald hx hb hK hP 3 1 rfl rfl (vp_in_nI (by omega) (by omega)) dX9_rowsInto_19 ?_
    refine xb_top (y := f_leaders k) (by rw [nI_clamp (by omega)]) ?_
    refine lv_iload hx hb dX9_rowsInto_20 (lv_at hl 0 rfl) ?_
    refine xCi (wr := [(o, .inr (9, [.ref wl_places, .ref wl_kinds, .ref wl_values, .ref wl_toldAt, .ref wl_untoldAt, .ref wl_standing, .ref wl_rows, .ref wl_longer, .int wl_sounds, .int wl_time])), (wl_rows, .inl (cJ, 24, .inr (.inl fr))), (t, .inr (8, [.ref k_name, .ref k_worth, .ref k_times, .ref k_first, .ref k_second, .ref k_beforeLast, .ref k_last, .ref k_errandOf, .ref k_errandAfter, .ref k_sound, .ref k_followers, .ref k_leaders, .int (nI w), .int k_errands, .int k_alikes, .int k_law])), (k_leaders, .inl (cI, 24, .inl f_leaders))]) (win := []) hP hD hS hA [] [0, 1, 2, 3] rfl rfl (by decide) (by decide) (va_runSN (As := [.int (f_leaders k), .int (nI i)]) (rest := []) ⟨hx, hb, hml, hown, hts⟩ (c_X10_isIn l D cB cI cJ cS cZ cO H.size (f_leaders k) (nI i) ) ⟨va_cnB 2 hts gX9_rowsInto_X10_isIn_n53 rfl rfl rfl (hN.2.1 (RX9, 53, yX10_isIn, RX10) (by decide +kernel)) (hts (.initialized RX10) (by decide +kernel)) (by decide +kernel) ⟨Nat.le_of_ble_eq_true rfl, Nat.le_of_ble_eq_true rfl⟩, hts (.static yX10_isIn) (by decide +kernel), trivial⟩ (xPreS (win := []) hN hK hP hD [] (by decide) rfl) rfl rfl hl.1 rfl (lv_room (Nat.le_of_ble_eq_true rfl)) dX9_rowsInto_22 ⟨Nat.le_of_ble_eq_true rfl, Nat.le_of_ble_eq_true rfl⟩) (fun r_3 w0 H locs hw hP hD hS => ?_)
    obtain ⟨rfl, hf_4⟩ := hw
    have hP : va_P D vwCl [(o, .inr (9, [.ref wl_places, .ref wl_kinds, .ref wl_values, .ref wl_toldAt, .ref wl_untoldAt, .ref wl_standing, .ref wl_rows, .ref wl_longer, .int wl_sounds, .int wl_time])), (wl_rows, .inl (cJ, 24, .inr (.inl fr))), (t, .inr (8, [.ref k_name, .ref k_worth, .ref k_times, .ref k_first, .ref k_second, .ref k_beforeLast, .ref k_last, .ref k_errandOf, .ref k_errandAfter, .ref k_sound, .ref k_followers, .ref k_leaders, .int (nI w), .int k_errands, .int k_alikes, .int k_law])), (k_leaders, .inl (cI, 24, .inl f_leaders))] H := hP
    have hD : va_D A [(o, .inr (9, [.ref wl_places, .ref wl_kinds, .ref wl_values, .ref wl_toldAt, .ref wl_untoldAt, .ref wl_standing, .ref wl_rows, .ref wl_longer, .int wl_sounds, .int wl_time])), (wl_rows, .inl (cJ, 24, .inr (.inl fr))), (t, .inr (8, [.ref k_name, .ref k_worth, .ref k_times, .ref k_first, .ref k_second, .ref k_beforeLast, .ref k_last, .ref k_errandOf, .ref k_errandAfter, .ref k_sound, .ref k_followers, .ref k_leaders, .int (nI w), .int k_errands, .int k_alikes, .int k_law])), (k_leaders, .inl (cI, 24, .inl f_leaders))] := hD
    refine lv_if_eq (tgt := 38) hx hb dX9_rowsInto_25 (by decide) (fun c_5 => ?_) (fun c_5 => ?_)
    · refine lv_iinc (v := nI (i + 1)) (lv' := [(5, .int (nI (i + 1))), (3, .long su), (0, .ref o), (1, .ref t), (2, .int (nI k))]) hx hb dX9_rowsInto_38 hl (k := 0) rfl (nI_1 i) (by decide) rfl (fun ls hl => ?_)
      refine lv_goto (tgt := 5) hx hb dX9_rowsInto_41 (by decide) ?_
      exact kk_5 _ _ _ _ (by rw [← hn_5]; omega) ⟨(i + 1), su, rfl, hP, hD, hS, lv_sub hl [0, 1, 2, 3, 4] rfl, (by first | assumption | omega)⟩
    · refine lv_lload_n hx hb dX9_rowsInto_28 rfl (lv_at hl 1 rfl) ?_
      refine lv_aload_n hx hb dX9_rowsInto_29 rfl (lv_at hl 2 rfl) ?_
      refine va_get (D := D) (ci := 9) (v := .ref wl_rows) (C := RX9) (T := TX9) (N := 10) hx hb hts (by decide +kernel) hown hK hP 0 rfl rfl 6 (by decide) (hts (.fieldLink RX9 30 "LastLetter$Wall" "rows" "[J") (by decide +kernel)) (fun _ h9 => h9) rfl dX9_rowsInto_30 ?_
      refine lv_iload hx hb dX9_rowsInto_33 (lv_at hl 0 rfl) ?_
      refine va_lald hx hb hK hP 1 2 rfl rfl (vp_in_nI (by omega) (by omega)) dX9_rowsInto_35 ?_
      refine xb_topl (y := fr i) (by rw [nI_clamp (by omega)]) ?_
      refine lv_ladd hx hb dX9_rowsInto_36 ?_
      refine lv_topl (fun v_6 ev_6 => ?_)
      refine lv_lstore_n (lv' := [(3, .long v_6), (5, .int (nI i)), (0, .ref o), (1, .ref t), (2, .int (nI k))]) hx hb dX9_rowsInto_37 rfl hl (by decide) rfl (fun ls hl => ?_)
      refine lv_iinc (v := nI (i + 1)) (lv' := [(5, .int (nI (i + 1))), (3, .long v_6), (0, .ref o), (1, .ref t), (2, .int (nI k))]) hx hb dX9_rowsInto_38 hl (k := 1) rfl (nI_1 i) (by decide) rfl (fun ls hl => ?_)
      refine lv_goto (tgt := 5) hx hb dX9_rowsInto_41 (by decide) ?_
      exact kk_5 _ _ _ _ (by rw [← hn_5]; omega) ⟨(i + 1), v_6, rfl, hP, hD, hS, lv_sub hl [0, 1, 2, 3, 4] rfl, (by first | assumption | omega)⟩
