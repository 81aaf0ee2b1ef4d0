theorem dX11_layBreaks_0 : decode cX11_layBreaks 0 = .ok (.aload_n 0, 1) := by decide +kernel
theorem dX11_layBreaks_1 : decode cX11_layBreaks 1 = .ok (.invokevirtual 257, 3) := by decide +kernel
theorem dX11_layBreaks_4 : decode cX11_layBreaks 4 = .ok (.istore_n 1, 1) := by decide +kernel
theorem dX11_layBreaks_5 : decode cX11_layBreaks 5 = .ok (.iconst 1, 1) := by decide +kernel
theorem dX11_layBreaks_6 : decode cX11_layBreaks 6 = .ok (.iload_n 1, 1) := by decide +kernel
theorem dX11_layBreaks_7 : decode cX11_layBreaks 7 = .ok (.ishl, 1) := by decide +kernel
theorem dX11_layBreaks_8 : decode cX11_layBreaks 8 = .ok (.iconst 1, 1) := by decide +kernel
theorem dX11_layBreaks_9 : decode cX11_layBreaks 9 = .ok (.isub, 1) := by decide +kernel
theorem dX11_layBreaks_10 : decode cX11_layBreaks 10 = .ok (.istore_n 2, 1) := by decide +kernel
theorem dX11_layBreaks_11 : decode cX11_layBreaks 11 = .ok (.iload_n 2, 1) := by decide +kernel
theorem dX11_layBreaks_12 : decode cX11_layBreaks 12 = .ok (.ifCond .le 140, 3) := by decide +kernel
theorem dX11_layBreaks_15 : decode cX11_layBreaks 15 = .ok (.iconst 0, 1) := by decide +kernel
theorem dX11_layBreaks_16 : decode cX11_layBreaks 16 = .ok (.istore_n 3, 1) := by decide +kernel
theorem dX11_layBreaks_17 : decode cX11_layBreaks 17 = .ok (.iload_n 3, 1) := by decide +kernel
theorem dX11_layBreaks_18 : decode cX11_layBreaks 18 = .ok (.iload_n 1, 1) := by decide +kernel
theorem dX11_layBreaks_19 : decode cX11_layBreaks 19 = .ok (.if_icmp .ge 127, 3) := by decide +kernel
theorem dX11_layBreaks_22 : decode cX11_layBreaks 22 = .ok (.iconst (-1), 1) := by decide +kernel
theorem dX11_layBreaks_23 : decode cX11_layBreaks 23 = .ok (.istore 4, 2) := by decide +kernel
theorem dX11_layBreaks_25 : decode cX11_layBreaks 25 = .ok (.iconst 0, 1) := by decide +kernel
theorem dX11_layBreaks_26 : decode cX11_layBreaks 26 = .ok (.istore 5, 2) := by decide +kernel
theorem dX11_layBreaks_28 : decode cX11_layBreaks 28 = .ok (.iload 5, 2) := by decide +kernel
theorem dX11_layBreaks_30 : decode cX11_layBreaks 30 = .ok (.iload_n 1, 1) := by decide +kernel
theorem dX11_layBreaks_31 : decode cX11_layBreaks 31 = .ok (.if_icmp .ge 87, 3) := by decide +kernel
theorem dX11_layBreaks_34 : decode cX11_layBreaks 34 = .ok (.iload_n 2, 1) := by decide +kernel
theorem dX11_layBreaks_35 : decode cX11_layBreaks 35 = .ok (.iload_n 3, 1) := by decide +kernel
theorem dX11_layBreaks_36 : decode cX11_layBreaks 36 = .ok (.ishr, 1) := by decide +kernel
theorem dX11_layBreaks_37 : decode cX11_layBreaks 37 = .ok (.iconst 1, 1) := by decide +kernel
theorem dX11_layBreaks_38 : decode cX11_layBreaks 38 = .ok (.iand, 1) := by decide +kernel
theorem dX11_layBreaks_39 : decode cX11_layBreaks 39 = .ok (.iconst 1, 1) := by decide +kernel
theorem dX11_layBreaks_40 : decode cX11_layBreaks 40 = .ok (.if_icmp .ne 78, 3) := by decide +kernel
theorem dX11_layBreaks_43 : decode cX11_layBreaks 43 = .ok (.iload_n 2, 1) := by decide +kernel
theorem dX11_layBreaks_44 : decode cX11_layBreaks 44 = .ok (.iload 5, 2) := by decide +kernel
theorem dX11_layBreaks_46 : decode cX11_layBreaks 46 = .ok (.ishr, 1) := by decide +kernel
theorem dX11_layBreaks_47 : decode cX11_layBreaks 47 = .ok (.iconst 1, 1) := by decide +kernel
theorem dX11_layBreaks_48 : decode cX11_layBreaks 48 = .ok (.iand, 1) := by decide +kernel
theorem dX11_layBreaks_49 : decode cX11_layBreaks 49 = .ok (.iconst 1, 1) := by decide +kernel
theorem dX11_layBreaks_50 : decode cX11_layBreaks 50 = .ok (.if_icmp .ne 6, 3) := by decide +kernel
theorem dX11_layBreaks_53 : decode cX11_layBreaks 53 = .ok (.goto 59, 3) := by decide +kernel
theorem dX11_layBreaks_56 : decode cX11_layBreaks 56 = .ok (.aload_n 0, 1) := by decide +kernel
theorem dX11_layBreaks_57 : decode cX11_layBreaks 57 = .ok (.iload_n 3, 1) := by decide +kernel
theorem dX11_layBreaks_58 : decode cX11_layBreaks 58 = .ok (.iload 5, 2) := by decide +kernel
theorem dX11_layBreaks_60 : decode cX11_layBreaks 60 = .ok (.invokevirtual 291, 3) := by decide +kernel
theorem dX11_layBreaks_63 : decode cX11_layBreaks 63 = .ok (.ifCond .eq 7, 3) := by decide +kernel
theorem dX11_layBreaks_66 : decode cX11_layBreaks 66 = .ok (.iconst 0, 1) := by decide +kernel
theorem dX11_layBreaks_67 : decode cX11_layBreaks 67 = .ok (.goto 4, 3) := by decide +kernel
theorem dX11_layBreaks_70 : decode cX11_layBreaks 70 = .ok (.iconst 1, 1) := by decide +kernel
theorem dX11_layBreaks_71 : decode cX11_layBreaks 71 = .ok (.aload_n 0, 1) := by decide +kernel
theorem dX11_layBreaks_72 : decode cX11_layBreaks 72 = .ok (.getfield 69, 3) := by decide +kernel
theorem dX11_layBreaks_75 : decode cX11_layBreaks 75 = .ok (.bipush 14, 2) := by decide +kernel
theorem dX11_layBreaks_77 : decode cX11_layBreaks 77 = .ok (.iload_n 2, 1) := by decide +kernel
theorem dX11_layBreaks_78 : decode cX11_layBreaks 78 = .ok (.iconst 1, 1) := by decide +kernel
theorem dX11_layBreaks_79 : decode cX11_layBreaks 79 = .ok (.iload 5, 2) := by decide +kernel
theorem dX11_layBreaks_81 : decode cX11_layBreaks 81 = .ok (.ishl, 1) := by decide +kernel
theorem dX11_layBreaks_82 : decode cX11_layBreaks 82 = .ok (.ior, 1) := by decide +kernel
theorem dX11_layBreaks_83 : decode cX11_layBreaks 83 = .ok (.imul, 1) := by decide +kernel
theorem dX11_layBreaks_84 : decode cX11_layBreaks 84 = .ok (.iload 5, 2) := by decide +kernel
theorem dX11_layBreaks_86 : decode cX11_layBreaks 86 = .ok (.iadd, 1) := by decide +kernel
theorem dX11_layBreaks_87 : decode cX11_layBreaks 87 = .ok (.iaload, 1) := by decide +kernel
theorem dX11_layBreaks_88 : decode cX11_layBreaks 88 = .ok (.iadd, 1) := by decide +kernel
theorem dX11_layBreaks_89 : decode cX11_layBreaks 89 = .ok (.istore 6, 2) := by decide +kernel
theorem dX11_layBreaks_91 : decode cX11_layBreaks 91 = .ok (.iload 4, 2) := by decide +kernel
theorem dX11_layBreaks_93 : decode cX11_layBreaks 93 = .ok (.ifCond .lt 10, 3) := by decide +kernel
theorem dX11_layBreaks_96 : decode cX11_layBreaks 96 = .ok (.iload 6, 2) := by decide +kernel
theorem dX11_layBreaks_98 : decode cX11_layBreaks 98 = .ok (.iload 4, 2) := by decide +kernel
theorem dX11_layBreaks_100 : decode cX11_layBreaks 100 = .ok (.if_icmp .ge 8, 3) := by decide +kernel
theorem dX11_layBreaks_103 : decode cX11_layBreaks 103 = .ok (.iload 6, 2) := by decide +kernel
theorem dX11_layBreaks_105 : decode cX11_layBreaks 105 = .ok (.goto 5, 3) := by decide +kernel
theorem dX11_layBreaks_108 : decode cX11_layBreaks 108 = .ok (.iload 4, 2) := by decide +kernel
theorem dX11_layBreaks_110 : decode cX11_layBreaks 110 = .ok (.istore 4, 2) := by decide +kernel
theorem dX11_layBreaks_112 : decode cX11_layBreaks 112 = .ok (.iinc 5 1, 3) := by decide +kernel
theorem dX11_layBreaks_115 : decode cX11_layBreaks 115 = .ok (.goto (-87), 3) := by decide +kernel
theorem dX11_layBreaks_118 : decode cX11_layBreaks 118 = .ok (.aload_n 0, 1) := by decide +kernel
theorem dX11_layBreaks_119 : decode cX11_layBreaks 119 = .ok (.getfield 69, 3) := by decide +kernel
theorem dX11_layBreaks_122 : decode cX11_layBreaks 122 = .ok (.bipush 14, 2) := by decide +kernel
theorem dX11_layBreaks_124 : decode cX11_layBreaks 124 = .ok (.iload_n 2, 1) := by decide +kernel
theorem dX11_layBreaks_125 : decode cX11_layBreaks 125 = .ok (.imul, 1) := by decide +kernel
theorem dX11_layBreaks_126 : decode cX11_layBreaks 126 = .ok (.iload_n 3, 1) := by decide +kernel
theorem dX11_layBreaks_127 : decode cX11_layBreaks 127 = .ok (.iadd, 1) := by decide +kernel
theorem dX11_layBreaks_128 : decode cX11_layBreaks 128 = .ok (.iload 4, 2) := by decide +kernel
theorem dX11_layBreaks_130 : decode cX11_layBreaks 130 = .ok (.ifCond .ge 7, 3) := by decide +kernel
theorem dX11_layBreaks_133 : decode cX11_layBreaks 133 = .ok (.iconst 0, 1) := by decide +kernel
theorem dX11_layBreaks_134 : decode cX11_layBreaks 134 = .ok (.goto 5, 3) := by decide +kernel
theorem dX11_layBreaks_137 : decode cX11_layBreaks 137 = .ok (.iload 4, 2) := by decide +kernel
theorem dX11_layBreaks_139 : decode cX11_layBreaks 139 = .ok (.iastore, 1) := by decide +kernel
theorem dX11_layBreaks_140 : decode cX11_layBreaks 140 = .ok (.iinc 3 1, 3) := by decide +kernel
theorem dX11_layBreaks_143 : decode cX11_layBreaks 143 = .ok (.goto (-126), 3) := by decide +kernel
theorem dX11_layBreaks_146 : decode cX11_layBreaks 146 = .ok (.iinc 2 (-1), 3) := by decide +kernel
theorem dX11_layBreaks_149 : decode cX11_layBreaks 149 = .ok (.goto (-138), 3) := by decide +kernel
theorem dX11_layBreaks_152 : decode cX11_layBreaks 152 = .ok (.return_, 1) := by decide +kernel
set_option maxRecDepth 20000 in
theorem ggX11_layBreaks_X11_isAfter : GoodIn wsX11_layBreaks wsX11_isAfter := goodIn_r _ [12, 13, 14, 15, 16, 17, 18, 19, 20, 21, 22, 23, 24, 25, 26, 27, 28, 29, 30, 31, 32, 33, 34, 35, 36, 37, 38, 39, 40, 41, 42, 43, 44, 45, 46, 47, 48, 49, 50, 51, 52, 53, 54, 55, 56, 57, 58, 59, 60, 61, 62, 63, 64, 65, 66, 67] (by decide +kernel) (by decide +kernel)
set_option maxRecDepth 20000 in
theorem gX11_layBreaks_X11_isAfter : GoodIn wsX11_layBreaks (wsV RX11 291 RX11 yX11_isAfter wsX11_isAfter) := goodIn_app (goodIn_of _ (by decide +kernel)) ggX11_layBreaks_X11_isAfter
set_option maxRecDepth 20000 in
theorem ggX11_layBreaks_X11_wordMany : GoodIn wsX11_layBreaks wsX11_wordMany := goodIn_r _ [6, 7, 8, 14, 15, 16, 17, 18, 19, 20, 21, 22, 23, 24, 25, 26, 27, 28, 29, 30, 31, 32, 33, 34, 35, 36, 37, 38, 39, 40, 41, 42, 43, 44, 45, 46, 47, 48, 49, 50, 51, 52, 53, 54, 55, 56, 57, 58, 59, 60, 61, 62, 63, 64, 65, 66, 67] (by decide +kernel) (by decide +kernel)
set_option maxRecDepth 20000 in
theorem gX11_layBreaks_X11_wordMany : GoodIn wsX11_layBreaks (wsV RX11 257 RX11 yX11_wordMany wsX11_wordMany) := goodIn_app (goodIn_of _ (by decide +kernel)) ggX11_layBreaks_X11_wordMany
set_option maxHeartbeats 4000000 in
set_option maxRecDepth 100000 in
theorem c_X11_layBreaks (l : Launch) (D : va_G) (cB cI cJ cS cZ cO : ClassId) (sz : Nat) (o : Nat) (m_tape : Nat) (m_text : Nat) (m_taped : Int32) (m_size : Int32) (m_faultKind : Int32) (m_faultPlace : Int32) (m_at : Int32) (m_end : Int32) (m_token : Int32) (m_number : Int32) (m_name : Int64) (m_words : Nat) (m_errands : Nat) (m_alikes : Nat) (m_law : Nat) (m_worth : Nat) (m_times : Nat) (m_eWord : Nat) (m_eAfter : Nat) (m_sound : Nat) (m_isLaw : Nat) (m_wName : Nat) (bk : Nat) (m_rb : Int32) (m_follow : Nat) (m_lengths : Nat) (m_said : Nat) (m_latest : Int32) (m_talked : Int32) (m_sum : Int32) (m_doneSet : Int32) (m_w : Int32) (m_more : Nat) (m_laidRow : Nat) (m_laid : Int32) (m_piece : Nat) (m_far : Nat) (m_steps : Nat) (m_ends : Nat) (m_hPlace : Nat) (m_hWhat : Nat) (m_hValue : Nat) (m_hTold : Nat) (m_hUntold : Nat) (m_sounds : Int32) (m_time : Int32) (m_ways : Nat) (m_goesOn : Nat) (m_boxMany : Nat) (m_boxLatest : Nat) (m_boxSum : Nat) (m_boxW : Nat) (m_boxDone : Nat) (m_boxSaid : Nat) (f_words : Nat → Int32) (f_follow : Nat → Int32) (f_more : Nat → Int32) (w : Nat) (sN : Nat) (hbk : bk ≤ 1) (hwm : f_words bk = nI w) (hs : sN = 2 ^ w) (hw4 : w ≤ 14) (hs1 : 1 ≤ sN) (hs2 : sN ≤ 16384) : Met l yX11_layBreaks wsX11_layBreaks ({ frames := 1, cells := 0, slots := 0, locals := 22 }) (xPre D (tyL cB cI cJ cS cZ cO) [(o, .inr (11, [.ref m_tape, .ref m_text, .int m_taped, .int m_size, .int m_faultKind, .int m_faultPlace, .int m_at, .int m_end, .int m_token, .int m_number, .long m_name, .ref m_words, .ref m_errands, .ref m_alikes, .ref m_law, .ref m_worth, .ref m_times, .ref m_eWord, .ref m_eAfter, .ref m_sound, .ref m_isLaw, .ref m_wName, .int (nI bk), .int m_rb, .ref m_follow, .ref m_lengths, .ref m_said, .int m_latest, .int m_talked, .int m_sum, .int m_doneSet, .int m_w, .ref m_more, .ref m_laidRow, .int m_laid, .ref m_piece, .ref m_far, .ref m_steps, .ref m_ends, .ref m_hPlace, .ref m_hWhat, .ref m_hValue, .ref m_hTold, .ref m_hUntold, .int m_sounds, .int m_time, .ref m_ways, .ref m_goesOn, .ref m_boxMany, .ref m_boxLatest, .ref m_boxSum, .ref m_boxW, .ref m_boxDone, .ref m_boxSaid])), (m_words, .inl (cI, 2, .inl f_words)), (m_follow, .inl (cI, 24, .inl f_follow)), (m_more, .inl (cI, 229376, .inl f_more))] sz [.ref o]) (xQv D (tyL cB cI cJ cS cZ cO) (va_A [(o, .inr (11, [.ref m_tape, .ref m_text, .int m_taped, .int m_size, .int m_faultKind, .int m_faultPlace, .int m_at, .int m_end, .int m_token, .int m_number, .long m_name, .ref m_words, .ref m_errands, .ref m_alikes, .ref m_law, .ref m_worth, .ref m_times, .ref m_eWord, .ref m_eAfter, .ref m_sound, .ref m_isLaw, .ref m_wName, .int (nI bk), .int m_rb, .ref m_follow, .ref m_lengths, .ref m_said, .int m_latest, .int m_talked, .int m_sum, .int m_doneSet, .int m_w, .ref m_more, .ref m_laidRow, .int m_laid, .ref m_piece, .ref m_far, .ref m_steps, .ref m_ends, .ref m_hPlace, .ref m_hWhat, .ref m_hValue, .ref m_hTold, .ref m_hUntold, .int m_sounds, .int m_time, .ref m_ways, .ref m_goesOn, .ref m_boxMany, .ref m_boxLatest, .ref m_boxSum, .ref m_boxW, .ref m_boxDone, .ref m_boxSaid])), (m_words, .inl (cI, 2, .inl f_words)), (m_follow, .inl (cI, 24, .inl f_follow)), (m_more, .inl (cI, 229376, .inl f_more))] sz) (fun u : va_W => ∃ g_more : Nat → Int32, u = [(o, .inr (11, [.ref m_tape, .ref m_text, .int m_taped, .int m_size, .int m_faultKind, .int m_faultPlace, .int m_at, .int m_end, .int m_token, .int m_number, .long m_name, .ref m_words, .ref m_errands, .ref m_alikes, .ref m_law, .ref m_worth, .ref m_times, .ref m_eWord, .ref m_eAfter, .ref m_sound, .ref m_isLaw, .ref m_wName, .int (nI bk), .int m_rb, .ref m_follow, .ref m_lengths, .ref m_said, .int m_latest, .int m_talked, .int m_sum, .int m_doneSet, .int m_w, .ref m_more, .ref m_laidRow, .int m_laid, .ref m_piece, .ref m_far, .ref m_steps, .ref m_ends, .ref m_hPlace, .ref m_hWhat, .ref m_hValue, .ref m_hTold, .ref m_hUntold, .int m_sounds, .int m_time, .ref m_ways, .ref m_goesOn, .ref m_boxMany, .ref m_boxLatest, .ref m_boxSum, .ref m_boxW, .ref m_boxDone, .ref m_boxSaid])), (m_words, .inl (cI, 2, .inl f_words)), (m_follow, .inl (cI, 24, .inl f_follow)), (m_more, .inl (cI, 229376, .inl g_more))] ∧ (∀ s k, 0 < s → s < sN → k < w → R3 f_follow w sN g_more s k))) 0 0 (va_A [(o, .inr (11, [.ref m_tape, .ref m_text, .int m_taped, .int m_size, .int m_faultKind, .int m_faultPlace, .int m_at, .int m_end, .int m_token, .int m_number, .long m_name, .ref m_words, .ref m_errands, .ref m_alikes, .ref m_law, .ref m_worth, .ref m_times, .ref m_eWord, .ref m_eAfter, .ref m_sound, .ref m_isLaw, .ref m_wName, .int (nI bk), .int m_rb, .ref m_follow, .ref m_lengths, .ref m_said, .int m_latest, .int m_talked, .int m_sum, .int m_doneSet, .int m_w, .ref m_more, .ref m_laidRow, .int m_laid, .ref m_piece, .ref m_far, .ref m_steps, .ref m_ends, .ref m_hPlace, .ref m_hWhat, .ref m_hValue, .ref m_hTold, .ref m_hUntold, .int m_sounds, .int m_time, .ref m_ways, .ref m_goesOn, .ref m_boxMany, .ref m_boxLatest, .ref m_boxSum, .ref m_boxW, .ref m_boxDone, .ref m_boxSaid])), (m_words, .inl (cI, 2, .inl f_words)), (m_follow, .inl (cI, 24, .inl f_follow)), (m_more, .inl (cI, 229376, .inl f_more))] sz) := by
  refine Met.ofW (cc := cX11_layBreaks) (maxL := 7) (ret := none) (by decide) rfl ?_
  intro p e s m args below meth c s₁ B hml hv
  obtain ⟨rfl, hsz, hP, hK, hD0, hN⟩ := hv
  have hx := B.exec
  have hb := B.bytes
  have hr := B.returns
  have hts := atoms_spec (ws := wsX11_layBreaks) B.pre
  have hown : s.vm.findClass RX11 = some m.cls := findClass_of_methodNamed B.named
  have hlocks := B.notSynchronized
  subst hsz
  have hD := hD0.self (sz := s.heap.size)
  generalize hAe : va_A [(o, .inr (11, [.ref m_tape, .ref m_text, .int m_taped, .int m_size, .int m_faultKind, .int m_faultPlace, .int m_at, .int m_end, .int m_token, .int m_number, .long m_name, .ref m_words, .ref m_errands, .ref m_alikes, .ref m_law, .ref m_worth, .ref m_times, .ref m_eWord, .ref m_eAfter, .ref m_sound, .ref m_isLaw, .ref m_wName, .int (nI bk), .int m_rb, .ref m_follow, .ref m_lengths, .ref m_said, .int m_latest, .int m_talked, .int m_sum, .int m_doneSet, .int m_w, .ref m_more, .ref m_laidRow, .int m_laid, .ref m_piece, .ref m_far, .ref m_steps, .ref m_ends, .ref m_hPlace, .ref m_hWhat, .ref m_hValue, .ref m_hTold, .ref m_hUntold, .int m_sounds, .int m_time, .ref m_ways, .ref m_goesOn, .ref m_boxMany, .ref m_boxLatest, .ref m_boxSum, .ref m_boxW, .ref m_boxDone, .ref m_boxSaid])), (m_words, .inl (cI, 2, .inl f_words)), (m_follow, .inl (cI, 24, .inl f_follow)), (m_more, .inl (cI, 229376, .inl f_more))] s.heap.size = A at hD ⊢
  have hA : ∀ q : Nat, s.heap.size ≤ q → A q := fun q h => by rw [← hAe]; exact Or.inr h
  have hS : va_S A s.heap s.heap [] := va_S.rf
  have hP : va_P D vwCl [(o, .inr (11, [.ref m_tape, .ref m_text, .int m_taped, .int m_size, .int m_faultKind, .int m_faultPlace, .int m_at, .int m_end, .int m_token, .int m_number, .long m_name, .ref m_words, .ref m_errands, .ref m_alikes, .ref m_law, .ref m_worth, .ref m_times, .ref m_eWord, .ref m_eAfter, .ref m_sound, .ref m_isLaw, .ref m_wName, .int (nI bk), .int m_rb, .ref m_follow, .ref m_lengths, .ref m_said, .int m_latest, .int m_talked, .int m_sum, .int m_doneSet, .int m_w, .ref m_more, .ref m_laidRow, .int m_laid, .ref m_piece, .ref m_far, .ref m_steps, .ref m_ends, .ref m_hPlace, .ref m_hWhat, .ref m_hValue, .ref m_hTold, .ref m_hUntold, .int m_sounds, .int m_time, .ref m_ways, .ref m_goesOn, .ref m_boxMany, .ref m_boxLatest, .ref m_boxSum, .ref m_boxW, .ref m_boxDone, .ref m_boxSaid])), (m_words, .inl (cI, 2, .inl f_words)), (m_follow, .inl (cI, 24, .inl f_follow)), (m_more, .inl (cI, 229376, .inl f_more))] s.heap := hP
  have hl := lv_entry ([.ref o]) (n := 7) (Nat.le_of_ble_eq_true rfl)
  rw [lg_entry_eq]
  generalize (lg_sl ([.ref o]) ++ List.replicate (7 - (lg_sl ([.ref o])).length) Slot.unset).toArray = ls at hl ⊢
  have hl : lv_has ls 7 [(0, .ref o)] := hl
  refine lv_aload_n hx hb dX11_layBreaks_0 rfl (lv_at hl 0 rfl) ?_
  refine xCi (wr := [(m_follow, .inl (cI, 24, .inl f_follow)), (m_more, .inl (cI, 229376, .inl f_more))]) (win := [(o, .inr (11, [.ref m_tape, .ref m_text, .int m_taped, .int m_size, .int m_faultKind, .int m_faultPlace, .int m_at, .int m_end, .int m_token, .int m_number, .long m_name, .ref m_words, .ref m_errands, .ref m_alikes, .ref m_law, .ref m_worth, .ref m_times, .ref m_eWord, .ref m_eAfter, .ref m_sound, .ref m_isLaw, .ref m_wName, .int (nI bk), .int m_rb, .ref m_follow, .ref m_lengths, .ref m_said, .int m_latest, .int m_talked, .int m_sum, .int m_doneSet, .int m_w, .ref m_more, .ref m_laidRow, .int m_laid, .ref m_piece, .ref m_far, .ref m_steps, .ref m_ends, .ref m_hPlace, .ref m_hWhat, .ref m_hValue, .ref m_hTold, .ref m_hUntold, .int m_sounds, .int m_time, .ref m_ways, .ref m_goesOn, .ref m_boxMany, .ref m_boxLatest, .ref m_boxSum, .ref m_boxW, .ref m_boxDone, .ref m_boxSaid])), (m_words, .inl (cI, 2, .inl f_words))]) hP hD hS hA [0, 1] [2, 3] rfl rfl (by decide) (by decide) (va_runV (As := []) (rest := []) ⟨hx, hb, hml, hown, hts⟩ (c_X11_wordMany l D cB cI cJ cS cZ cO s.heap.size o m_tape m_text m_taped m_size m_faultKind m_faultPlace m_at m_end m_token m_number m_name m_words m_errands m_alikes m_law m_worth m_times m_eWord m_eAfter m_sound m_isLaw m_wName bk m_rb m_follow m_lengths m_said m_latest m_talked m_sum m_doneSet m_w m_more m_laidRow m_laid m_piece m_far m_steps m_ends m_hPlace m_hWhat m_hValue m_hTold m_hUntold m_sounds m_time m_ways m_goesOn m_boxMany m_boxLatest m_boxSum m_boxW m_boxDone m_boxSaid f_words w (by first | assumption | omega | decide) (by first | assumption | omega | decide)) (cwV 0 hts gX11_layBreaks_X11_wordMany rfl rfl rfl (by decide +kernel) ⟨Nat.le_of_ble_eq_true rfl, Nat.le_of_ble_eq_true rfl⟩) (xPreV (win := [(o, .inr (11, [.ref m_tape, .ref m_text, .int m_taped, .int m_size, .int m_faultKind, .int m_faultPlace, .int m_at, .int m_end, .int m_token, .int m_number, .long m_name, .ref m_words, .ref m_errands, .ref m_alikes, .ref m_law, .ref m_worth, .ref m_times, .ref m_eWord, .ref m_eAfter, .ref m_sound, .ref m_isLaw, .ref m_wName, .int (nI bk), .int m_rb, .ref m_follow, .ref m_lengths, .ref m_said, .int m_latest, .int m_talked, .int m_sum, .int m_doneSet, .int m_w, .ref m_more, .ref m_laidRow, .int m_laid, .ref m_piece, .ref m_far, .ref m_steps, .ref m_ends, .ref m_hPlace, .ref m_hWhat, .ref m_hValue, .ref m_hTold, .ref m_hUntold, .int m_sounds, .int m_time, .ref m_ways, .ref m_goesOn, .ref m_boxMany, .ref m_boxLatest, .ref m_boxSum, .ref m_boxW, .ref m_boxDone, .ref m_boxSaid])), (m_words, .inl (cI, 2, .inl f_words))]) hN hK hP hD [0, 1] (by decide) rfl 0 11 rfl rfl rfl) rfl rfl hl.1 rfl (lv_room (Nat.le_of_ble_eq_true rfl)) dX11_layBreaks_1 ⟨Nat.le_of_ble_eq_true rfl, Nat.le_of_ble_eq_true rfl⟩) (fun r0 w0 H locs hw hP hD hS => ?_)
  obtain ⟨rfl, rfl⟩ := hw
  have hP : va_P D vwCl [(m_follow, .inl (cI, 24, .inl f_follow)), (m_more, .inl (cI, 229376, .inl f_more)), (o, .inr (11, [.ref m_tape, .ref m_text, .int m_taped, .int m_size, .int m_faultKind, .int m_faultPlace, .int m_at, .int m_end, .int m_token, .int m_number, .long m_name, .ref m_words, .ref m_errands, .ref m_alikes, .ref m_law, .ref m_worth, .ref m_times, .ref m_eWord, .ref m_eAfter, .ref m_sound, .ref m_isLaw, .ref m_wName, .int (nI bk), .int m_rb, .ref m_follow, .ref m_lengths, .ref m_said, .int m_latest, .int m_talked, .int m_sum, .int m_doneSet, .int m_w, .ref m_more, .ref m_laidRow, .int m_laid, .ref m_piece, .ref m_far, .ref m_steps, .ref m_ends, .ref m_hPlace, .ref m_hWhat, .ref m_hValue, .ref m_hTold, .ref m_hUntold, .int m_sounds, .int m_time, .ref m_ways, .ref m_goesOn, .ref m_boxMany, .ref m_boxLatest, .ref m_boxSum, .ref m_boxW, .ref m_boxDone, .ref m_boxSaid])), (m_words, .inl (cI, 2, .inl f_words))] H := hP
  have hD : va_D A [(m_follow, .inl (cI, 24, .inl f_follow)), (m_more, .inl (cI, 229376, .inl f_more)), (o, .inr (11, [.ref m_tape, .ref m_text, .int m_taped, .int m_size, .int m_faultKind, .int m_faultPlace, .int m_at, .int m_end, .int m_token, .int m_number, .long m_name, .ref m_words, .ref m_errands, .ref m_alikes, .ref m_law, .ref m_worth, .ref m_times, .ref m_eWord, .ref m_eAfter, .ref m_sound, .ref m_isLaw, .ref m_wName, .int (nI bk), .int m_rb, .ref m_follow, .ref m_lengths, .ref m_said, .int m_latest, .int m_talked, .int m_sum, .int m_doneSet, .int m_w, .ref m_more, .ref m_laidRow, .int m_laid, .ref m_piece, .ref m_far, .ref m_steps, .ref m_ends, .ref m_hPlace, .ref m_hWhat, .ref m_hValue, .ref m_hTold, .ref m_hUntold, .int m_sounds, .int m_time, .ref m_ways, .ref m_goesOn, .ref m_boxMany, .ref m_boxLatest, .ref m_boxSum, .ref m_boxW, .ref m_boxDone, .ref m_boxSaid])), (m_words, .inl (cI, 2, .inl f_words))] := hD
  refine lv_istore_n (lv' := [(1, .int (nI w)), (0, .ref o)]) hx hb dX11_layBreaks_4 rfl hl (by decide) rfl (fun ls hl => ?_)
  refine lv_iconst (v := 1) hx hb dX11_layBreaks_5 (by decide) ?_
  refine lv_iload_n hx hb dX11_layBreaks_6 rfl (lv_at hl 0 rfl) ?_
  refine lv_ishl hx hb dX11_layBreaks_7 ?_
  refine xb_top (y := nI sN) (by rw [hs]; exact (nb_shl (a := 1) (i := w) (by omega)).trans (by rw [Nat.one_mul])) ?_
  refine lv_iconst (v := 1) hx hb dX11_layBreaks_8 (by decide) ?_
  refine lv_isub hx hb dX11_layBreaks_9 ?_
  refine xb_top (y := nI (sN - 1)) (pk_sub (a := sN) (b := 1) (by omega)) ?_
  refine lv_istore_n (lv' := [(2, .int (nI (sN - 1))), (1, .int (nI w)), (0, .ref o)]) hx hb dX11_layBreaks_10 rfl hl (by decide) rfl (fun ls hl => ?_)
  refine xb_wh (fun (n9 : Nat) H locs ls => ∃ st : Nat, ∃ g3 : Nat → Int32, st = n9 ∧ va_P D vwCl [(m_follow, .inl (cI, 24, .inl f_follow)), (m_more, .inl (cI, 229376, .inl g3)), (o, .inr (11, [.ref m_tape, .ref m_text, .int m_taped, .int m_size, .int m_faultKind, .int m_faultPlace, .int m_at, .int m_end, .int m_token, .int m_number, .long m_name, .ref m_words, .ref m_errands, .ref m_alikes, .ref m_law, .ref m_worth, .ref m_times, .ref m_eWord, .ref m_eAfter, .ref m_sound, .ref m_isLaw, .ref m_wName, .int (nI bk), .int m_rb, .ref m_follow, .ref m_lengths, .ref m_said, .int m_latest, .int m_talked, .int m_sum, .int m_doneSet, .int m_w, .ref m_more, .ref m_laidRow, .int m_laid, .ref m_piece, .ref m_far, .ref m_steps, .ref m_ends, .ref m_hPlace, .ref m_hWhat, .ref m_hValue, .ref m_hTold, .ref m_hUntold, .int m_sounds, .int m_time, .ref m_ways, .ref m_goesOn, .ref m_boxMany, .ref m_boxLatest, .ref m_boxSum, .ref m_boxW, .ref m_boxDone, .ref m_boxSaid])), (m_words, .inl (cI, 2, .inl f_words))] H ∧ va_D A [(m_follow, .inl (cI, 24, .inl f_follow)), (m_more, .inl (cI, 229376, .inl g3)), (o, .inr (11, [.ref m_tape, .ref m_text, .int m_taped, .int m_size, .int m_faultKind, .int m_faultPlace, .int m_at, .int m_end, .int m_token, .int m_number, .long m_name, .ref m_words, .ref m_errands, .ref m_alikes, .ref m_law, .ref m_worth, .ref m_times, .ref m_eWord, .ref m_eAfter, .ref m_sound, .ref m_isLaw, .ref m_wName, .int (nI bk), .int m_rb, .ref m_follow, .ref m_lengths, .ref m_said, .int m_latest, .int m_talked, .int m_sum, .int m_doneSet, .int m_w, .ref m_more, .ref m_laidRow, .int m_laid, .ref m_piece, .ref m_far, .ref m_steps, .ref m_ends, .ref m_hPlace, .ref m_hWhat, .ref m_hValue, .ref m_hTold, .ref m_hUntold, .int m_sounds, .int m_time, .ref m_ways, .ref m_goesOn, .ref m_boxMany, .ref m_boxLatest, .ref m_boxSum, .ref m_boxW, .ref m_boxDone, .ref m_boxSaid])), (m_words, .inl (cI, 2, .inl f_words))] ∧ va_S A s.heap H locs ∧ lv_has ls 7 [(2, .int (nI st)), (1, .int (nI w)), (0, .ref o)] ∧ (st < sN) ∧ (∀ s k, st < s → s < sN → k < w → R3 f_follow w sN g3 s k)) ⟨(sN - 1), f_more, rfl, hP, hD, hS, lv_sub hl [0, 1, 2] rfl, (by omega), (fun s k h1 h2 => absurd h1 (by omega))⟩ (fun n9 H locs ls hI kk_11 => ?_)
  obtain ⟨st, g3, hn_11, hP, hD, hS, hl, hF_h_1, hF_h_2⟩ := hI
  refine lv_iload_n hx hb dX11_layBreaks_11 rfl (lv_at hl 0 rfl) ?_
  refine lv_if_le (tgt := 152) hx hb dX11_layBreaks_12 (by decide) (fun c_3 => ?_) (fun c_3 => ?_)
  · have dc_3 : st ≤ 0 := (nI_leI (a := st) (b := 0) (by omega) (by omega)).mp c_3
    have hP9 := hP.sub (ws' := [(o, .inr (11, [.ref m_tape, .ref m_text, .int m_taped, .int m_size, .int m_faultKind, .int m_faultPlace, .int m_at, .int m_end, .int m_token, .int m_number, .long m_name, .ref m_words, .ref m_errands, .ref m_alikes, .ref m_law, .ref m_worth, .ref m_times, .ref m_eWord, .ref m_eAfter, .ref m_sound, .ref m_isLaw, .ref m_wName, .int (nI bk), .int m_rb, .ref m_follow, .ref m_lengths, .ref m_said, .int m_latest, .int m_talked, .int m_sum, .int m_doneSet, .int m_w, .ref m_more, .ref m_laidRow, .int m_laid, .ref m_piece, .ref m_far, .ref m_steps, .ref m_ends, .ref m_hPlace, .ref m_hWhat, .ref m_hValue, .ref m_hTold, .ref m_hUntold, .int m_sounds, .int m_time, .ref m_ways, .ref m_goesOn, .ref m_boxMany, .ref m_boxLatest, .ref m_boxSum, .ref m_boxW, .ref m_boxDone, .ref m_boxSaid])), (m_words, .inl (cI, 2, .inl f_words)), (m_follow, .inl (cI, 24, .inl f_follow)), (m_more, .inl (cI, 229376, .inl g3))]) [2, 3, 0, 1] rfl
    have hD9 := hD.sub (ws' := [(o, .inr (11, [.ref m_tape, .ref m_text, .int m_taped, .int m_size, .int m_faultKind, .int m_faultPlace, .int m_at, .int m_end, .int m_token, .int m_number, .long m_name, .ref m_words, .ref m_errands, .ref m_alikes, .ref m_law, .ref m_worth, .ref m_times, .ref m_eWord, .ref m_eAfter, .ref m_sound, .ref m_isLaw, .ref m_wName, .int (nI bk), .int m_rb, .ref m_follow, .ref m_lengths, .ref m_said, .int m_latest, .int m_talked, .int m_sum, .int m_doneSet, .int m_w, .ref m_more, .ref m_laidRow, .int m_laid, .ref m_piece, .ref m_far, .ref m_steps, .ref m_ends, .ref m_hPlace, .ref m_hWhat, .ref m_hValue, .ref m_hTold, .ref m_hUntold, .int m_sounds, .int m_time, .ref m_ways, .ref m_goesOn, .ref m_boxMany, .ref m_boxLatest, .ref m_boxSum, .ref m_boxW, .ref m_boxDone, .ref m_boxSaid])), (m_words, .inl (cI, 2, .inl f_words)), (m_follow, .inl (cI, 24, .inl f_follow)), (m_more, .inl (cI, 229376, .inl g3))]) [2, 3, 0, 1] (by decide) rfl
    refine W.widen (k := 0) (n := 0) (Nat.le_of_ble_eq_true rfl) (Nat.le_of_ble_eq_true rfl) ?_
    exact W.vret hx hb hr (fun tz htz hWz => ⟨⟨[(o, .inr (11, [.ref m_tape, .ref m_text, .int m_taped, .int m_size, .int m_faultKind, .int m_faultPlace, .int m_at, .int m_end, .int m_token, .int m_number, .long m_name, .ref m_words, .ref m_errands, .ref m_alikes, .ref m_law, .ref m_worth, .ref m_times, .ref m_eWord, .ref m_eAfter, .ref m_sound, .ref m_isLaw, .ref m_wName, .int (nI bk), .int m_rb, .ref m_follow, .ref m_lengths, .ref m_said, .int m_latest, .int m_talked, .int m_sum, .int m_doneSet, .int m_w, .ref m_more, .ref m_laidRow, .int m_laid, .ref m_piece, .ref m_far, .ref m_steps, .ref m_ends, .ref m_hPlace, .ref m_hWhat, .ref m_hValue, .ref m_hTold, .ref m_hUntold, .int m_sounds, .int m_time, .ref m_ways, .ref m_goesOn, .ref m_boxMany, .ref m_boxLatest, .ref m_boxSum, .ref m_boxW, .ref m_boxDone, .ref m_boxSaid])), (m_words, .inl (cI, 2, .inl f_words)), (m_follow, .inl (cI, 24, .inl f_follow)), (m_more, .inl (cI, 229376, .inl g3))], rfl, ⟨g3, rfl, (fun s k h1 h2 h3 => hF_h_2 s k (by omega) h2 h3)⟩, by rw [htz]; exact hP9, va_K.moved hWz.alike hK, hD9⟩, hS.F htz⟩) hS.2.2 dX11_layBreaks_152
  · have dc_3 : ¬ st ≤ 0 := fun h => c_3 ((nI_leI (a := st) (b := 0) (by omega) (by omega)).mpr h)
    refine lv_iconst (v := 0) hx hb dX11_layBreaks_15 (by decide) ?_
    refine lv_istore_n (lv' := [(3, .int 0), (2, .int (nI st)), (1, .int (nI w)), (0, .ref o)]) hx hb dX11_layBreaks_16 rfl hl (by decide) rfl (fun ls hl => ?_)
    refine xb_wh (fun (n9 : Nat) H locs ls => ∃ k5 : Nat, ∃ g5 : Nat → Int32, (w - k5) = n9 ∧ va_P D vwCl [(m_follow, .inl (cI, 24, .inl f_follow)), (m_more, .inl (cI, 229376, .inl g5)), (o, .inr (11, [.ref m_tape, .ref m_text, .int m_taped, .int m_size, .int m_faultKind, .int m_faultPlace, .int m_at, .int m_end, .int m_token, .int m_number, .long m_name, .ref m_words, .ref m_errands, .ref m_alikes, .ref m_law, .ref m_worth, .ref m_times, .ref m_eWord, .ref m_eAfter, .ref m_sound, .ref m_isLaw, .ref m_wName, .int (nI bk), .int m_rb, .ref m_follow, .ref m_lengths, .ref m_said, .int m_latest, .int m_talked, .int m_sum, .int m_doneSet, .int m_w, .ref m_more, .ref m_laidRow, .int m_laid, .ref m_piece, .ref m_far, .ref m_steps, .ref m_ends, .ref m_hPlace, .ref m_hWhat, .ref m_hValue, .ref m_hTold, .ref m_hUntold, .int m_sounds, .int m_time, .ref m_ways, .ref m_goesOn, .ref m_boxMany, .ref m_boxLatest, .ref m_boxSum, .ref m_boxW, .ref m_boxDone, .ref m_boxSaid])), (m_words, .inl (cI, 2, .inl f_words))] H ∧ va_D A [(m_follow, .inl (cI, 24, .inl f_follow)), (m_more, .inl (cI, 229376, .inl g5)), (o, .inr (11, [.ref m_tape, .ref m_text, .int m_taped, .int m_size, .int m_faultKind, .int m_faultPlace, .int m_at, .int m_end, .int m_token, .int m_number, .long m_name, .ref m_words, .ref m_errands, .ref m_alikes, .ref m_law, .ref m_worth, .ref m_times, .ref m_eWord, .ref m_eAfter, .ref m_sound, .ref m_isLaw, .ref m_wName, .int (nI bk), .int m_rb, .ref m_follow, .ref m_lengths, .ref m_said, .int m_latest, .int m_talked, .int m_sum, .int m_doneSet, .int m_w, .ref m_more, .ref m_laidRow, .int m_laid, .ref m_piece, .ref m_far, .ref m_steps, .ref m_ends, .ref m_hPlace, .ref m_hWhat, .ref m_hValue, .ref m_hTold, .ref m_hUntold, .int m_sounds, .int m_time, .ref m_ways, .ref m_goesOn, .ref m_boxMany, .ref m_boxLatest, .ref m_boxSum, .ref m_boxW, .ref m_boxDone, .ref m_boxSaid])), (m_words, .inl (cI, 2, .inl f_words))] ∧ va_S A s.heap H locs ∧ lv_has ls 7 [(3, .int (nI k5)), (2, .int (nI st)), (1, .int (nI w)), (0, .ref o)] ∧ (k5 ≤ w) ∧ (∀ s k, st < s → s < sN → k < w → R3 f_follow w sN g5 s k) ∧ (∀ k2, k2 < k5 → R3 f_follow w sN g5 st k2)) ⟨0, g3, rfl, hP, hD, hS, lv_sub hl [0, 1, 2, 3] rfl, (Nat.zero_le _), hF_h_2, (fun k h => absurd h (Nat.not_lt_zero k))⟩ (fun n9 H locs ls hI kk_17 => ?_)
    obtain ⟨k5, g5, hn_17, hP, hD, hS, hl, hF_h_4, hF_h_5, hF_h_6⟩ := hI
    refine lv_iload_n hx hb dX11_layBreaks_17 rfl (lv_at hl 0 rfl) ?_
    refine lv_iload_n hx hb dX11_layBreaks_18 rfl (lv_at hl 2 rfl) ?_
    refine lv_icmp_ge (tgt := 146) hx hb dX11_layBreaks_19 (by decide) (fun c_7 => ?_) (fun c_7 => ?_)
    · have dc_7 : w ≤ k5 := (nI_leI (a := w) (b := k5) (by omega) (by omega)).mp c_7
      refine lv_iinc (v := nI (st - 1)) (lv' := [(2, .int (nI (st - 1))), (3, .int (nI k5)), (1, .int (nI w)), (0, .ref o)]) hx hb dX11_layBreaks_146 hl (k := 1) rfl (dec1 (by omega)) (by decide) rfl (fun ls hl => ?_)
      refine lv_goto (tgt := 11) hx hb dX11_layBreaks_149 (by decide) ?_
      exact kk_11 _ _ _ _ (by rw [← hn_11]; omega) ⟨(st - 1), g5, rfl, hP, hD, hS, lv_sub hl [0, 2, 3] rfl, (by omega), (fun s k h1 h2 h3 => if h9 : s = st then (by subst h9; exact hF_h_6 k (by omega)) else hF_h_5 s k (by omega) h2 h3)⟩
    · have dc_7 : ¬ w ≤ k5 := fun h => c_7 ((nI_leI (a := w) (b := k5) (by omega) (by omega)).mpr h)
      refine lv_iconst (v := (-1)) hx hb dX11_layBreaks_22 (by decide) ?_
      refine lv_istore (lv' := [(4, .int (-1)), (3, .int (nI k5)), (2, .int (nI st)), (1, .int (nI w)), (0, .ref o)]) hx hb dX11_layBreaks_23 hl (by decide) rfl (fun ls hl => ?_)
      refine lv_iconst (v := 0) hx hb dX11_layBreaks_25 (by decide) ?_
      refine lv_istore (lv' := [(5, .int 0), (4, .int (-1)), (3, .int (nI k5)), (2, .int (nI st)), (1, .int (nI w)), (0, .ref o)]) hx hb dX11_layBreaks_26 hl (by decide) rfl (fun ls hl => ?_)
      refine xb_wh (fun (n9 : Nat) H locs ls => ∃ o5 : Nat, ∃ be : Int32, (w - o5) = n9 ∧ va_P D vwCl [(m_follow, .inl (cI, 24, .inl f_follow)), (m_more, .inl (cI, 229376, .inl g5)), (o, .inr (11, [.ref m_tape, .ref m_text, .int m_taped, .int m_size, .int m_faultKind, .int m_faultPlace, .int m_at, .int m_end, .int m_token, .int m_number, .long m_name, .ref m_words, .ref m_errands, .ref m_alikes, .ref m_law, .ref m_worth, .ref m_times, .ref m_eWord, .ref m_eAfter, .ref m_sound, .ref m_isLaw, .ref m_wName, .int (nI bk), .int m_rb, .ref m_follow, .ref m_lengths, .ref m_said, .int m_latest, .int m_talked, .int m_sum, .int m_doneSet, .int m_w, .ref m_more, .ref m_laidRow, .int m_laid, .ref m_piece, .ref m_far, .ref m_steps, .ref m_ends, .ref m_hPlace, .ref m_hWhat, .ref m_hValue, .ref m_hTold, .ref m_hUntold, .int m_sounds, .int m_time, .ref m_ways, .ref m_goesOn, .ref m_boxMany, .ref m_boxLatest, .ref m_boxSum, .ref m_boxW, .ref m_boxDone, .ref m_boxSaid])), (m_words, .inl (cI, 2, .inl f_words))] H ∧ va_D A [(m_follow, .inl (cI, 24, .inl f_follow)), (m_more, .inl (cI, 229376, .inl g5)), (o, .inr (11, [.ref m_tape, .ref m_text, .int m_taped, .int m_size, .int m_faultKind, .int m_faultPlace, .int m_at, .int m_end, .int m_token, .int m_number, .long m_name, .ref m_words, .ref m_errands, .ref m_alikes, .ref m_law, .ref m_worth, .ref m_times, .ref m_eWord, .ref m_eAfter, .ref m_sound, .ref m_isLaw, .ref m_wName, .int (nI bk), .int m_rb, .ref m_follow, .ref m_lengths, .ref m_said, .int m_latest, .int m_talked, .int m_sum, .int m_doneSet, .int m_w, .ref m_more, .ref m_laidRow, .int m_laid, .ref m_piece, .ref m_far, .ref m_steps, .ref m_ends, .ref m_hPlace, .ref m_hWhat, .ref m_hValue, .ref m_hTold, .ref m_hUntold, .int m_sounds, .int m_time, .ref m_ways, .ref m_goesOn, .ref m_boxMany, .ref m_boxLatest, .ref m_boxSum, .ref m_boxW, .ref m_boxDone, .ref m_boxSaid])), (m_words, .inl (cI, 2, .inl f_words))] ∧ va_S A s.heap H locs ∧ lv_has ls 7 [(5, .int (nI o5)), (4, .int be), (3, .int (nI k5)), (2, .int (nI st)), (1, .int (nI w)), (0, .ref o)] ∧ (o5 ≤ w) ∧ (B3 f_follow w sN g5 st k5 o5 be)) ⟨0, (-1), rfl, hP, hD, hS, lv_sub hl [0, 1, 2, 3, 4, 5] rfl, (Nat.zero_le _), (Or.inl ⟨rfl, fun o h => absurd h (Nat.not_lt_zero o)⟩)⟩ (fun n9 H locs ls hI kk_28 => ?_)
      obtain ⟨o5, be, hn_28, hP, hD, hS, hl, hF_h_8, hF_h_9⟩ := hI
      refine lv_iload hx hb dX11_layBreaks_28 (lv_at hl 0 rfl) ?_
      refine lv_iload_n hx hb dX11_layBreaks_30 rfl (lv_at hl 4 rfl) ?_
      refine lv_icmp_ge (tgt := 118) hx hb dX11_layBreaks_31 (by decide) (fun c_10 => ?_) (fun c_10 => ?_)
      · have dc_10 : w ≤ o5 := (nI_leI (a := w) (b := o5) (by omega) (by omega)).mp c_10
        refine lv_aload_n hx hb dX11_layBreaks_118 rfl (lv_at hl 5 rfl) ?_
        refine va_get (D := D) (ci := 11) (v := .ref m_more) (C := RX11) (T := TX11) (N := 54) hx hb hts (by decide +kernel) hown hK hP 2 rfl rfl 32 (by decide) (hts (.fieldLink RX11 69 "LastLetterModel" "more" "[I") (by decide +kernel)) (fun _ h9 => h9) rfl dX11_layBreaks_119 ?_
        refine lv_bipush (v := 14) hx hb dX11_layBreaks_122 (by decide) ?_
        refine lv_iload_n hx hb dX11_layBreaks_124 rfl (lv_at hl 3 rfl) ?_
        refine lv_imul hx hb dX11_layBreaks_125 ?_
        refine xb_top (y := nI (14 * st)) (pk_mul 14 st) ?_
        refine lv_iload_n hx hb dX11_layBreaks_126 rfl (lv_at hl 2 rfl) ?_
        refine lv_iadd hx hb dX11_layBreaks_127 ?_
        refine xb_top (y := nI ((14 * st) + k5)) (nI_add (14 * st) k5) ?_
        refine lv_iload hx hb dX11_layBreaks_128 (lv_at hl 1 rfl) ?_
        refine lv_if_ge (tgt := 137) hx hb dX11_layBreaks_130 (by decide) (fun c_11 => ?_) (fun c_11 => ?_)
        · refine lv_iload hx hb dX11_layBreaks_137 (lv_at hl 1 rfl) ?_
          refine va_iast hx hb hK hP hD hS 1 1 rfl rfl (vp_in_nI (by omega) (by omega)) dX11_layBreaks_139 (fun H locs hP hD hS => ?_)
          have hP : va_P D vwCl [(m_follow, .inl (cI, 24, .inl f_follow)), (m_more, .inl (cI, 229376, .inl (upd g5 (Int32.toNatClampNeg (nI ((14 * st) + k5))) be))), (o, .inr (11, [.ref m_tape, .ref m_text, .int m_taped, .int m_size, .int m_faultKind, .int m_faultPlace, .int m_at, .int m_end, .int m_token, .int m_number, .long m_name, .ref m_words, .ref m_errands, .ref m_alikes, .ref m_law, .ref m_worth, .ref m_times, .ref m_eWord, .ref m_eAfter, .ref m_sound, .ref m_isLaw, .ref m_wName, .int (nI bk), .int m_rb, .ref m_follow, .ref m_lengths, .ref m_said, .int m_latest, .int m_talked, .int m_sum, .int m_doneSet, .int m_w, .ref m_more, .ref m_laidRow, .int m_laid, .ref m_piece, .ref m_far, .ref m_steps, .ref m_ends, .ref m_hPlace, .ref m_hWhat, .ref m_hValue, .ref m_hTold, .ref m_hUntold, .int m_sounds, .int m_time, .ref m_ways, .ref m_goesOn, .ref m_boxMany, .ref m_boxLatest, .ref m_boxSum, .ref m_boxW, .ref m_boxDone, .ref m_boxSaid])), (m_words, .inl (cI, 2, .inl f_words))] H := hP
          have hD : va_D A [(m_follow, .inl (cI, 24, .inl f_follow)), (m_more, .inl (cI, 229376, .inl (upd g5 (Int32.toNatClampNeg (nI ((14 * st) + k5))) be))), (o, .inr (11, [.ref m_tape, .ref m_text, .int m_taped, .int m_size, .int m_faultKind, .int m_faultPlace, .int m_at, .int m_end, .int m_token, .int m_number, .long m_name, .ref m_words, .ref m_errands, .ref m_alikes, .ref m_law, .ref m_worth, .ref m_times, .ref m_eWord, .ref m_eAfter, .ref m_sound, .ref m_isLaw, .ref m_wName, .int (nI bk), .int m_rb, .ref m_follow, .ref m_lengths, .ref m_said, .int m_latest, .int m_talked, .int m_sum, .int m_doneSet, .int m_w, .ref m_more, .ref m_laidRow, .int m_laid, .ref m_piece, .ref m_far, .ref m_steps, .ref m_ends, .ref m_hPlace, .ref m_hWhat, .ref m_hValue, .ref m_hTold, .ref m_hUntold, .int m_sounds, .int m_time, .ref m_ways, .ref m_goesOn, .ref m_boxMany, .ref m_boxLatest, .ref m_boxSum, .ref m_boxW, .ref m_boxDone, .ref m_boxSaid])), (m_words, .inl (cI, 2, .inl f_words))] := hD
          generalize eg_12 : upd g5 (Int32.toNatClampNeg (nI ((14 * st) + k5))) be = g_12 at hP hD
          refine lv_iinc (v := nI (k5 + 1)) (lv' := [(3, .int (nI (k5 + 1))), (5, .int (nI o5)), (4, .int be), (2, .int (nI st)), (1, .int (nI w)), (0, .ref o)]) hx hb dX11_layBreaks_140 hl (k := 2) rfl (nI_1 k5) (by decide) rfl (fun ls hl => ?_)
          refine lv_goto (tgt := 17) hx hb dX11_layBreaks_143 (by decide) ?_
          obtain ⟨hu1, hu2⟩ := Tb_up R3_loc hw4 (by omega) (by omega) hF_h_5 hF_h_6 eg_12 (R3_new hs (by omega) hs2 hw4 (by omega) (by omega) o5 (fun _ => by omega) hF_h_9 (Or.inr ⟨Int32.not_lt.mpr c_11, rfl⟩) eg_12)
          exact kk_17 _ _ _ _ (by rw [← hn_17]; omega) ⟨(k5 + 1), g_12, rfl, hP, hD, hS, lv_sub hl [0, 3, 4, 5] rfl, (by omega), hu1, hu2⟩
        · refine lv_iconst (v := 0) hx hb dX11_layBreaks_133 (by decide) ?_
          refine lv_goto (tgt := 139) hx hb dX11_layBreaks_134 (by decide) ?_
          refine va_iast hx hb hK hP hD hS 1 1 rfl rfl (vp_in_nI (by omega) (by omega)) dX11_layBreaks_139 (fun H locs hP hD hS => ?_)
          have hP : va_P D vwCl [(m_follow, .inl (cI, 24, .inl f_follow)), (m_more, .inl (cI, 229376, .inl (upd g5 (Int32.toNatClampNeg (nI ((14 * st) + k5))) 0))), (o, .inr (11, [.ref m_tape, .ref m_text, .int m_taped, .int m_size, .int m_faultKind, .int m_faultPlace, .int m_at, .int m_end, .int m_token, .int m_number, .long m_name, .ref m_words, .ref m_errands, .ref m_alikes, .ref m_law, .ref m_worth, .ref m_times, .ref m_eWord, .ref m_eAfter, .ref m_sound, .ref m_isLaw, .ref m_wName, .int (nI bk), .int m_rb, .ref m_follow, .ref m_lengths, .ref m_said, .int m_latest, .int m_talked, .int m_sum, .int m_doneSet, .int m_w, .ref m_more, .ref m_laidRow, .int m_laid, .ref m_piece, .ref m_far, .ref m_steps, .ref m_ends, .ref m_hPlace, .ref m_hWhat, .ref m_hValue, .ref m_hTold, .ref m_hUntold, .int m_sounds, .int m_time, .ref m_ways, .ref m_goesOn, .ref m_boxMany, .ref m_boxLatest, .ref m_boxSum, .ref m_boxW, .ref m_boxDone, .ref m_boxSaid])), (m_words, .inl (cI, 2, .inl f_words))] H := hP
          have hD : va_D A [(m_follow, .inl (cI, 24, .inl f_follow)), (m_more, .inl (cI, 229376, .inl (upd g5 (Int32.toNatClampNeg (nI ((14 * st) + k5))) 0))), (o, .inr (11, [.ref m_tape, .ref m_text, .int m_taped, .int m_size, .int m_faultKind, .int m_faultPlace, .int m_at, .int m_end, .int m_token, .int m_number, .long m_name, .ref m_words, .ref m_errands, .ref m_alikes, .ref m_law, .ref m_worth, .ref m_times, .ref m_eWord, .ref m_eAfter, .ref m_sound, .ref m_isLaw, .ref m_wName, .int (nI bk), .int m_rb, .ref m_follow, .ref m_lengths, .ref m_said, .int m_latest, .int m_talked, .int m_sum, .int m_doneSet, .int m_w, .ref m_more, .ref m_laidRow, .int m_laid, .ref m_piece, .ref m_far, .ref m_steps, .ref m_ends, .ref m_hPlace, .ref m_hWhat, .ref m_hValue, .ref m_hTold, .ref m_hUntold, .int m_sounds, .int m_time, .ref m_ways, .ref m_goesOn, .ref m_boxMany, .ref m_boxLatest, .ref m_boxSum, .ref m_boxW, .ref m_boxDone, .ref m_boxSaid])), (m_words, .inl (cI, 2, .inl f_words))] := hD
          generalize eg_13 : upd g5 (Int32.toNatClampNeg (nI ((14 * st) + k5))) 0 = g_13 at hP hD
          refine lv_iinc (v := nI (k5 + 1)) (lv' := [(3, .int (nI (k5 + 1))), (5, .int (nI o5)), (4, .int be), (2, .int (nI st)), (1, .int (nI w)), (0, .ref o)]) hx hb dX11_layBreaks_140 hl (k := 2) rfl (nI_1 k5) (by decide) rfl (fun ls hl => ?_)
          refine lv_goto (tgt := 17) hx hb dX11_layBreaks_143 (by decide) ?_
          obtain ⟨hu1, hu2⟩ := Tb_up R3_loc hw4 (by omega) (by omega) hF_h_5 hF_h_6 eg_13 (R3_new hs (by omega) hs2 hw4 (by omega) (by omega) o5 (fun _ => by omega) hF_h_9 (Or.inl ⟨Int32.not_le.mp c_11, rfl⟩) eg_13)
          exact kk_17 _ _ _ _ (by rw [← hn_17]; omega) ⟨(k5 + 1), g_13, rfl, hP, hD, hS, lv_sub hl [0, 3, 4, 5] rfl, (by omega), hu1, hu2⟩
      · have dc_10 : ¬ w ≤ o5 := fun h => c_10 ((nI_leI (a := w) (b := o5) (by omega) (by omega)).mpr h)
        refine lv_iload_n hx hb dX11_layBreaks_34 rfl (lv_at hl 3 rfl) ?_
        refine lv_iload_n hx hb dX11_layBreaks_35 rfl (lv_at hl 2 rfl) ?_
        refine lv_ishr hx hb dX11_layBreaks_36 ?_
        refine xb_top (y := nI (st / 2 ^ k5)) (nb_shr (a := st) (i := k5) (by omega) (by omega)) ?_
        refine lv_iconst (v := 1) hx hb dX11_layBreaks_37 (by decide) ?_
        refine lv_iand hx hb dX11_layBreaks_38 ?_
        refine xb_top (y := nI (st / 2 ^ k5 % 2)) ((nb_and _ 1).trans (by rw [Nat.and_one_is_mod])) ?_
        refine lv_iconst (v := 1) hx hb dX11_layBreaks_39 (by decide) ?_
        refine lv_icmp_ne (tgt := 118) hx hb dX11_layBreaks_40 (by decide) (fun c_14 => ?_) (fun c_14 => ?_)
        · have dc_14 : ¬ (st / 2 ^ k5 % 2) = 1 := fun h => c_14 ((nI_eq (a := st / 2 ^ k5 % 2) (b := 1) (by omega) (by omega)).mpr h)
          refine lv_aload_n hx hb dX11_layBreaks_118 rfl (lv_at hl 5 rfl) ?_
          refine va_get (D := D) (ci := 11) (v := .ref m_more) (C := RX11) (T := TX11) (N := 54) hx hb hts (by decide +kernel) hown hK hP 2 rfl rfl 32 (by decide) (hts (.fieldLink RX11 69 "LastLetterModel" "more" "[I") (by decide +kernel)) (fun _ h9 => h9) rfl dX11_layBreaks_119 ?_
          refine lv_bipush (v := 14) hx hb dX11_layBreaks_122 (by decide) ?_
          refine lv_iload_n hx hb dX11_layBreaks_124 rfl (lv_at hl 3 rfl) ?_
          refine lv_imul hx hb dX11_layBreaks_125 ?_
          refine xb_top (y := nI (14 * st)) (pk_mul 14 st) ?_
          refine lv_iload_n hx hb dX11_layBreaks_126 rfl (lv_at hl 2 rfl) ?_
          refine lv_iadd hx hb dX11_layBreaks_127 ?_
          refine xb_top (y := nI ((14 * st) + k5)) (nI_add (14 * st) k5) ?_
          refine lv_iload hx hb dX11_layBreaks_128 (lv_at hl 1 rfl) ?_
          refine lv_if_ge (tgt := 137) hx hb dX11_layBreaks_130 (by decide) (fun c_15 => ?_) (fun c_15 => ?_)
          · refine lv_iload hx hb dX11_layBreaks_137 (lv_at hl 1 rfl) ?_
            refine va_iast hx hb hK hP hD hS 1 1 rfl rfl (vp_in_nI (by omega) (by omega)) dX11_layBreaks_139 (fun H locs hP hD hS => ?_)
            have hP : va_P D vwCl [(m_follow, .inl (cI, 24, .inl f_follow)), (m_more, .inl (cI, 229376, .inl (upd g5 (Int32.toNatClampNeg (nI ((14 * st) + k5))) be))), (o, .inr (11, [.ref m_tape, .ref m_text, .int m_taped, .int m_size, .int m_faultKind, .int m_faultPlace, .int m_at, .int m_end, .int m_token, .int m_number, .long m_name, .ref m_words, .ref m_errands, .ref m_alikes, .ref m_law, .ref m_worth, .ref m_times, .ref m_eWord, .ref m_eAfter, .ref m_sound, .ref m_isLaw, .ref m_wName, .int (nI bk), .int m_rb, .ref m_follow, .ref m_lengths, .ref m_said, .int m_latest, .int m_talked, .int m_sum, .int m_doneSet, .int m_w, .ref m_more, .ref m_laidRow, .int m_laid, .ref m_piece, .ref m_far, .ref m_steps, .ref m_ends, .ref m_hPlace, .ref m_hWhat, .ref m_hValue, .ref m_hTold, .ref m_hUntold, .int m_sounds, .int m_time, .ref m_ways, .ref m_goesOn, .ref m_boxMany, .ref m_boxLatest, .ref m_boxSum, .ref m_boxW, .ref m_boxDone, .ref m_boxSaid])), (m_words, .inl (cI, 2, .inl f_words))] H := hP
            have hD : va_D A [(m_follow, .inl (cI, 24, .inl f_follow)), (m_more, .inl (cI, 229376, .inl (upd g5 (Int32.toNatClampNeg (nI ((14 * st) + k5))) be))), (o, .inr (11, [.ref m_tape, .ref m_text, .int m_taped, .int m_size, .int m_faultKind, .int m_faultPlace, .int m_at, .int m_end, .int m_token, .int m_number, .long m_name, .ref m_words, .ref m_errands, .ref m_alikes, .ref m_law, .ref m_worth, .ref m_times, .ref m_eWord, .ref m_eAfter, .ref m_sound, .ref m_isLaw, .ref m_wName, .int (nI bk), .int m_rb, .ref m_follow, .ref m_lengths, .ref m_said, .int m_latest, .int m_talked, .int m_sum, .int m_doneSet, .int m_w, .ref m_more, .ref m_laidRow, .int m_laid, .ref m_piece, .ref m_far, .ref m_steps, .ref m_ends, .ref m_hPlace, .ref m_hWhat, .ref m_hValue, .ref m_hTold, .ref m_hUntold, .int m_sounds, .int m_time, .ref m_ways, .ref m_goesOn, .ref m_boxMany, .ref m_boxLatest, .ref m_boxSum, .ref m_boxW, .ref m_boxDone, .ref m_boxSaid])), (m_words, .inl (cI, 2, .inl f_words))] := hD
            generalize eg_16 : upd g5 (Int32.toNatClampNeg (nI ((14 * st) + k5))) be = g_16 at hP hD
            refine lv_iinc (v := nI (k5 + 1)) (lv' := [(3, .int (nI (k5 + 1))), (5, .int (nI o5)), (4, .int be), (2, .int (nI st)), (1, .int (nI w)), (0, .ref o)]) hx hb dX11_layBreaks_140 hl (k := 2) rfl (nI_1 k5) (by decide) rfl (fun ls hl => ?_)
            refine lv_goto (tgt := 17) hx hb dX11_layBreaks_143 (by decide) ?_
            obtain ⟨hu1, hu2⟩ := Tb_up R3_loc hw4 (by omega) (by omega) hF_h_5 hF_h_6 eg_16 (R3_new hs (by omega) hs2 hw4 (by omega) (by omega) o5 (fun h => absurd h (by omega)) hF_h_9 (Or.inr ⟨Int32.not_lt.mpr c_15, rfl⟩) eg_16)
            exact kk_17 _ _ _ _ (by rw [← hn_17]; omega) ⟨(k5 + 1), g_16, rfl, hP, hD, hS, lv_sub hl [0, 3, 4, 5] rfl, (by omega), hu1, hu2⟩
          · refine lv_iconst (v := 0) hx hb dX11_layBreaks_133 (by decide) ?_
            refine lv_goto (tgt := 139) hx hb dX11_layBreaks_134 (by decide) ?_
            refine va_iast hx hb hK hP hD hS 1 1 rfl rfl (vp_in_nI (by omega) (by omega)) dX11_layBreaks_139 (fun H locs hP hD hS => ?_)
            have hP : va_P D vwCl [(m_follow, .inl (cI, 24, .inl f_follow)), (m_more, .inl (cI, 229376, .inl (upd g5 (Int32.toNatClampNeg (nI ((14 * st) + k5))) 0))), (o, .inr (11, [.ref m_tape, .ref m_text, .int m_taped, .int m_size, .int m_faultKind, .int m_faultPlace, .int m_at, .int m_end, .int m_token, .int m_number, .long m_name, .ref m_words, .ref m_errands, .ref m_alikes, .ref m_law, .ref m_worth, .ref m_times, .ref m_eWord, .ref m_eAfter, .ref m_sound, .ref m_isLaw, .ref m_wName, .int (nI bk), .int m_rb, .ref m_follow, .ref m_lengths, .ref m_said, .int m_latest, .int m_talked, .int m_sum, .int m_doneSet, .int m_w, .ref m_more, .ref m_laidRow, .int m_laid, .ref m_piece, .ref m_far, .ref m_steps, .ref m_ends, .ref m_hPlace, .ref m_hWhat, .ref m_hValue, .ref m_hTold, .ref m_hUntold, .int m_sounds, .int m_time, .ref m_ways, .ref m_goesOn, .ref m_boxMany, .ref m_boxLatest, .ref m_boxSum, .ref m_boxW, .ref m_boxDone, .ref m_boxSaid])), (m_words, .inl (cI, 2, .inl f_words))] H := hP
            have hD : va_D A [(m_follow, .inl (cI, 24, .inl f_follow)), (m_more, .inl (cI, 229376, .inl (upd g5 (Int32.toNatClampNeg (nI ((14 * st) + k5))) 0))), (o, .inr (11, [.ref m_tape, .ref m_text, .int m_taped, .int m_size, .int m_faultKind, .int m_faultPlace, .int m_at, .int m_end, .int m_token, .int m_number, .long m_name, .ref m_words, .ref m_errands, .ref m_alikes, .ref m_law, .ref m_worth, .ref m_times, .ref m_eWord, .ref m_eAfter, .ref m_sound, .ref m_isLaw, .ref m_wName, .int (nI bk), .int m_rb, .ref m_follow, .ref m_lengths, .ref m_said, .int m_latest, .int m_talked, .int m_sum, .int m_doneSet, .int m_w, .ref m_more, .ref m_laidRow, .int m_laid, .ref m_piece, .ref m_far, .ref m_steps, .ref m_ends, .ref m_hPlace, .ref m_hWhat, .ref m_hValue, .ref m_hTold, .ref m_hUntold, .int m_sounds, .int m_time, .ref m_ways, .ref m_goesOn, .ref m_boxMany, .ref m_boxLatest, .ref m_boxSum, .ref m_boxW, .ref m_boxDone, .ref m_boxSaid])), (m_words, .inl (cI, 2, .inl f_words))] := hD
            generalize eg_17 : upd g5 (Int32.toNatClampNeg (nI ((14 * st) + k5))) 0 = g_17 at hP hD
            refine lv_iinc (v := nI (k5 + 1)) (lv' := [(3, .int (nI (k5 + 1))), (5, .int (nI o5)), (4, .int be), (2, .int (nI st)), (1, .int (nI w)), (0, .ref o)]) hx hb dX11_layBreaks_140 hl (k := 2) rfl (nI_1 k5) (by decide) rfl (fun ls hl => ?_)
            refine lv_goto (tgt := 17) hx hb dX11_layBreaks_143 (by decide) ?_
            obtain ⟨hu1, hu2⟩ := Tb_up R3_loc hw4 (by omega) (by omega) hF_h_5 hF_h_6 eg_17 (R3_new hs (by omega) hs2 hw4 (by omega) (by omega) o5 (fun h => absurd h (by omega)) hF_h_9 (Or.inl ⟨Int32.not_le.mp c_15, rfl⟩) eg_17)
            exact kk_17 _ _ _ _ (by rw [← hn_17]; omega) ⟨(k5 + 1), g_17, rfl, hP, hD, hS, lv_sub hl [0, 3, 4, 5] rfl, (by omega), hu1, hu2⟩
        · have dc_14 : st / 2 ^ k5 % 2 = 1 := (nI_eq (a := st / 2 ^ k5 % 2) (b := 1) (by omega) (by omega)).mp c_14
          refine lv_iload_n hx hb dX11_layBreaks_43 rfl (lv_at hl 3 rfl) ?_
          refine lv_iload hx hb dX11_layBreaks_44 (lv_at hl 0 rfl) ?_
          refine lv_ishr hx hb dX11_layBreaks_46 ?_
          refine xb_top (y := nI (st / 2 ^ o5)) (nb_shr (a := st) (i := o5) (by omega) (by omega)) ?_
          refine lv_iconst (v := 1) hx hb dX11_layBreaks_47 (by decide) ?_
          refine lv_iand hx hb dX11_layBreaks_48 ?_
          refine xb_top (y := nI (st / 2 ^ o5 % 2)) ((nb_and _ 1).trans (by rw [Nat.and_one_is_mod])) ?_
          refine lv_iconst (v := 1) hx hb dX11_layBreaks_49 (by decide) ?_
          refine lv_icmp_ne (tgt := 56) hx hb dX11_layBreaks_50 (by decide) (fun c_18 => ?_) (fun c_18 => ?_)
          · have dc_18 : ¬ (st / 2 ^ o5 % 2) = 1 := fun h => c_18 ((nI_eq (a := st / 2 ^ o5 % 2) (b := 1) (by omega) (by omega)).mpr h)
            refine lv_aload_n hx hb dX11_layBreaks_56 rfl (lv_at hl 5 rfl) ?_
            refine lv_iload_n hx hb dX11_layBreaks_57 rfl (lv_at hl 2 rfl) ?_
            refine lv_iload hx hb dX11_layBreaks_58 (lv_at hl 0 rfl) ?_
            refine xCi (wr := [(m_more, .inl (cI, 229376, .inl g5)), (m_words, .inl (cI, 2, .inl f_words))]) (win := [(o, .inr (11, [.ref m_tape, .ref m_text, .int m_taped, .int m_size, .int m_faultKind, .int m_faultPlace, .int m_at, .int m_end, .int m_token, .int m_number, .long m_name, .ref m_words, .ref m_errands, .ref m_alikes, .ref m_law, .ref m_worth, .ref m_times, .ref m_eWord, .ref m_eAfter, .ref m_sound, .ref m_isLaw, .ref m_wName, .int (nI bk), .int m_rb, .ref m_follow, .ref m_lengths, .ref m_said, .int m_latest, .int m_talked, .int m_sum, .int m_doneSet, .int m_w, .ref m_more, .ref m_laidRow, .int m_laid, .ref m_piece, .ref m_far, .ref m_steps, .ref m_ends, .ref m_hPlace, .ref m_hWhat, .ref m_hValue, .ref m_hTold, .ref m_hUntold, .int m_sounds, .int m_time, .ref m_ways, .ref m_goesOn, .ref m_boxMany, .ref m_boxLatest, .ref m_boxSum, .ref m_boxW, .ref m_boxDone, .ref m_boxSaid])), (m_follow, .inl (cI, 24, .inl f_follow))]) hP hD hS hA [2, 0] [1, 3] rfl rfl (by decide) (by decide) (va_runV (As := [.int (nI k5), .int (nI o5)]) (rest := []) ⟨hx, hb, hml, hown, hts⟩ (c_X11_isAfter l D cB cI cJ cS cZ cO H.size o k5 o5 m_tape m_text m_taped m_size m_faultKind m_faultPlace m_at m_end m_token m_number m_name m_words m_errands m_alikes m_law m_worth m_times m_eWord m_eAfter m_sound m_isLaw m_wName (nI bk) m_rb m_follow m_lengths m_said m_latest m_talked m_sum m_doneSet m_w m_more m_laidRow m_laid m_piece m_far m_steps m_ends m_hPlace m_hWhat m_hValue m_hTold m_hUntold m_sounds m_time m_ways m_goesOn m_boxMany m_boxLatest m_boxSum m_boxW m_boxDone m_boxSaid f_follow (by first | assumption | omega | decide)) (cwV 2 hts gX11_layBreaks_X11_isAfter rfl rfl rfl (by decide +kernel) ⟨Nat.le_of_ble_eq_true rfl, Nat.le_of_ble_eq_true rfl⟩) (xPreV (win := [(o, .inr (11, [.ref m_tape, .ref m_text, .int m_taped, .int m_size, .int m_faultKind, .int m_faultPlace, .int m_at, .int m_end, .int m_token, .int m_number, .long m_name, .ref m_words, .ref m_errands, .ref m_alikes, .ref m_law, .ref m_worth, .ref m_times, .ref m_eWord, .ref m_eAfter, .ref m_sound, .ref m_isLaw, .ref m_wName, .int (nI bk), .int m_rb, .ref m_follow, .ref m_lengths, .ref m_said, .int m_latest, .int m_talked, .int m_sum, .int m_doneSet, .int m_w, .ref m_more, .ref m_laidRow, .int m_laid, .ref m_piece, .ref m_far, .ref m_steps, .ref m_ends, .ref m_hPlace, .ref m_hWhat, .ref m_hValue, .ref m_hTold, .ref m_hUntold, .int m_sounds, .int m_time, .ref m_ways, .ref m_goesOn, .ref m_boxMany, .ref m_boxLatest, .ref m_boxSum, .ref m_boxW, .ref m_boxDone, .ref m_boxSaid])), (m_follow, .inl (cI, 24, .inl f_follow))]) hN hK hP hD [2, 0] (by decide) rfl 2 11 rfl rfl rfl) rfl rfl hl.1 rfl (lv_room (Nat.le_of_ble_eq_true rfl)) dX11_layBreaks_60 ⟨Nat.le_of_ble_eq_true rfl, Nat.le_of_ble_eq_true rfl⟩) (fun r0 w0 H locs hw hP hD hS => ?_)
            obtain ⟨rfl, rfl⟩ := hw
            have hP : va_P D vwCl [(m_more, .inl (cI, 229376, .inl g5)), (m_words, .inl (cI, 2, .inl f_words)), (o, .inr (11, [.ref m_tape, .ref m_text, .int m_taped, .int m_size, .int m_faultKind, .int m_faultPlace, .int m_at, .int m_end, .int m_token, .int m_number, .long m_name, .ref m_words, .ref m_errands, .ref m_alikes, .ref m_law, .ref m_worth, .ref m_times, .ref m_eWord, .ref m_eAfter, .ref m_sound, .ref m_isLaw, .ref m_wName, .int (nI bk), .int m_rb, .ref m_follow, .ref m_lengths, .ref m_said, .int m_latest, .int m_talked, .int m_sum, .int m_doneSet, .int m_w, .ref m_more, .ref m_laidRow, .int m_laid, .ref m_piece, .ref m_far, .ref m_steps, .ref m_ends, .ref m_hPlace, .ref m_hWhat, .ref m_hValue, .ref m_hTold, .ref m_hUntold, .int m_sounds, .int m_time, .ref m_ways, .ref m_goesOn, .ref m_boxMany, .ref m_boxLatest, .ref m_boxSum, .ref m_boxW, .ref m_boxDone, .ref m_boxSaid])), (m_follow, .inl (cI, 24, .inl f_follow))] H := hP
            have hD : va_D A [(m_more, .inl (cI, 229376, .inl g5)), (m_words, .inl (cI, 2, .inl f_words)), (o, .inr (11, [.ref m_tape, .ref m_text, .int m_taped, .int m_size, .int m_faultKind, .int m_faultPlace, .int m_at, .int m_end, .int m_token, .int m_number, .long m_name, .ref m_words, .ref m_errands, .ref m_alikes, .ref m_law, .ref m_worth, .ref m_times, .ref m_eWord, .ref m_eAfter, .ref m_sound, .ref m_isLaw, .ref m_wName, .int (nI bk), .int m_rb, .ref m_follow, .ref m_lengths, .ref m_said, .int m_latest, .int m_talked, .int m_sum, .int m_doneSet, .int m_w, .ref m_more, .ref m_laidRow, .int m_laid, .ref m_piece, .ref m_far, .ref m_steps, .ref m_ends, .ref m_hPlace, .ref m_hWhat, .ref m_hValue, .ref m_hTold, .ref m_hUntold, .int m_sounds, .int m_time, .ref m_ways, .ref m_goesOn, .ref m_boxMany, .ref m_boxLatest, .ref m_boxSum, .ref m_boxW, .ref m_boxDone, .ref m_boxSaid])), (m_follow, .inl (cI, 24, .inl f_follow))] := hD
            refine lv_if_eq (tgt := 70) hx hb dX11_layBreaks_63 (by decide) (fun c_19 => ?_) (fun c_19 => ?_)
            · refine lv_iconst (v := 1) hx hb dX11_layBreaks_70 (by decide) ?_
              refine lv_aload_n hx hb dX11_layBreaks_71 rfl (lv_at hl 5 rfl) ?_
              refine va_get (D := D) (ci := 11) (v := .ref m_more) (C := RX11) (T := TX11) (N := 54) hx hb hts (by decide +kernel) hown hK hP 2 rfl rfl 32 (by decide) (hts (.fieldLink RX11 69 "LastLetterModel" "more" "[I") (by decide +kernel)) (fun _ h9 => h9) rfl dX11_layBreaks_72 ?_
              refine lv_bipush (v := 14) hx hb dX11_layBreaks_75 (by decide) ?_
              refine lv_iload_n hx hb dX11_layBreaks_77 rfl (lv_at hl 3 rfl) ?_
              refine lv_iconst (v := 1) hx hb dX11_layBreaks_78 (by decide) ?_
              refine lv_iload hx hb dX11_layBreaks_79 (lv_at hl 0 rfl) ?_
              refine lv_ishl hx hb dX11_layBreaks_81 ?_
              refine xb_top (y := nI (1 * 2 ^ o5)) (nb_shl (a := 1) (i := o5) (by omega)) ?_
              have hor_19 : st ||| 1 * 2 ^ o5 < sN := or_lt hs (by omega) (by omega)
              refine lv_ior hx hb dX11_layBreaks_82 ?_
              refine xb_top (y := nI (st ||| 1 * 2 ^ o5)) (nb_or _ _) ?_
              refine lv_imul hx hb dX11_layBreaks_83 ?_
              refine xb_top (y := nI (14 * (st ||| 1 * 2 ^ o5))) (pk_mul 14 (st ||| 1 * 2 ^ o5)) ?_
              refine lv_iload hx hb dX11_layBreaks_84 (lv_at hl 0 rfl) ?_
              refine lv_iadd hx hb dX11_layBreaks_86 ?_
              refine xb_top (y := nI ((14 * (st ||| 1 * 2 ^ o5)) + o5)) (nI_add (14 * (st ||| 1 * 2 ^ o5)) o5) ?_
              refine va_iald hx hb hK hP 0 1 rfl rfl (vp_in_nI (by omega) (by omega)) dX11_layBreaks_87 ?_
              refine xb_top (y := g5 ((14 * (st ||| 1 * 2 ^ o5)) + o5)) (by rw [nI_clamp (by omega)]) ?_
              refine lv_iadd hx hb dX11_layBreaks_88 ?_
              refine lv_topi (fun v_20 ev_20 => ?_)
              have e8v_20 : af1 f_follow k5 o5 + g5 (14 * (st ||| 1 * 2 ^ o5) + o5) = v_20 := by rw [ev_20]; unfold af1; rw [if_pos c_19]
              refine lv_istore (lv' := [(6, .int v_20), (5, .int (nI o5)), (4, .int be), (3, .int (nI k5)), (2, .int (nI st)), (1, .int (nI w)), (0, .ref o)]) hx hb dX11_layBreaks_89 hl (by decide) rfl (fun ls hl => ?_)
              refine lv_iload hx hb dX11_layBreaks_91 (lv_at hl 2 rfl) ?_
              refine lv_if_lt (tgt := 103) hx hb dX11_layBreaks_93 (by decide) (fun c_21 => ?_) (fun c_21 => ?_)
              · refine lv_iload hx hb dX11_layBreaks_103 (lv_at hl 0 rfl) ?_
                refine lv_goto (tgt := 110) hx hb dX11_layBreaks_105 (by decide) ?_
                refine lv_istore (lv' := [(4, .int v_20), (6, .int v_20), (5, .int (nI o5)), (3, .int (nI k5)), (2, .int (nI st)), (1, .int (nI w)), (0, .ref o)]) hx hb dX11_layBreaks_110 hl (by decide) rfl (fun ls hl => ?_)
                refine lv_iinc (v := nI (o5 + 1)) (lv' := [(5, .int (nI (o5 + 1))), (4, .int v_20), (6, .int v_20), (3, .int (nI k5)), (2, .int (nI st)), (1, .int (nI w)), (0, .ref o)]) hx hb dX11_layBreaks_112 hl (k := 2) rfl (nI_1 o5) (by decide) rfl (fun ls hl => ?_)
                refine lv_goto (tgt := 28) hx hb dX11_layBreaks_115 (by decide) ?_
                exact kk_28 _ _ _ _ (by rw [← hn_28]; omega) ⟨(o5 + 1), v_20, rfl, hP.sub [3, 0, 2, 1] rfl, hD.sub [3, 0, 2, 1] (by decide) rfl, hS, lv_sub hl [0, 1, 3, 4, 5, 6] rfl, (by omega), (Or.inr (B3_its (by omega) (by omega) (hF_h_5 _ _ (or_gt (by omega)) (by omega) (by omega)) e8v_20))⟩
              · refine lv_iload hx hb dX11_layBreaks_96 (lv_at hl 0 rfl) ?_
                refine lv_iload hx hb dX11_layBreaks_98 (lv_at hl 2 rfl) ?_
                refine lv_icmp_ge (tgt := 108) hx hb dX11_layBreaks_100 (by decide) (fun c_22 => ?_) (fun c_22 => ?_)
                · refine lv_iload hx hb dX11_layBreaks_108 (lv_at hl 2 rfl) ?_
                  refine lv_istore (lv' := [(4, .int be), (6, .int v_20), (5, .int (nI o5)), (3, .int (nI k5)), (2, .int (nI st)), (1, .int (nI w)), (0, .ref o)]) hx hb dX11_layBreaks_110 hl (by decide) rfl (fun ls hl => ?_)
                  refine lv_iinc (v := nI (o5 + 1)) (lv' := [(5, .int (nI (o5 + 1))), (4, .int be), (6, .int v_20), (3, .int (nI k5)), (2, .int (nI st)), (1, .int (nI w)), (0, .ref o)]) hx hb dX11_layBreaks_112 hl (k := 2) rfl (nI_1 o5) (by decide) rfl (fun ls hl => ?_)
                  refine lv_goto (tgt := 28) hx hb dX11_layBreaks_115 (by decide) ?_
                  exact kk_28 _ _ _ _ (by rw [← hn_28]; omega) ⟨(o5 + 1), be, rfl, hP.sub [3, 0, 2, 1] rfl, hD.sub [3, 0, 2, 1] (by decide) rfl, hS, lv_sub hl [0, 1, 3, 4, 5, 6] rfl, (by omega), (Or.elim hF_h_9 (fun hh => absurd (by rw [hh.1]; decide) c_21) (fun h => Or.inr h))⟩
                · refine lv_iload hx hb dX11_layBreaks_103 (lv_at hl 0 rfl) ?_
                  refine lv_goto (tgt := 110) hx hb dX11_layBreaks_105 (by decide) ?_
                  refine lv_istore (lv' := [(4, .int v_20), (6, .int v_20), (5, .int (nI o5)), (3, .int (nI k5)), (2, .int (nI st)), (1, .int (nI w)), (0, .ref o)]) hx hb dX11_layBreaks_110 hl (by decide) rfl (fun ls hl => ?_)
                  refine lv_iinc (v := nI (o5 + 1)) (lv' := [(5, .int (nI (o5 + 1))), (4, .int v_20), (6, .int v_20), (3, .int (nI k5)), (2, .int (nI st)), (1, .int (nI w)), (0, .ref o)]) hx hb dX11_layBreaks_112 hl (k := 2) rfl (nI_1 o5) (by decide) rfl (fun ls hl => ?_)
                  refine lv_goto (tgt := 28) hx hb dX11_layBreaks_115 (by decide) ?_
                  exact kk_28 _ _ _ _ (by rw [← hn_28]; omega) ⟨(o5 + 1), v_20, rfl, hP.sub [3, 0, 2, 1] rfl, hD.sub [3, 0, 2, 1] (by decide) rfl, hS, lv_sub hl [0, 1, 3, 4, 5, 6] rfl, (by omega), (Or.inr (B3_its (by omega) (by omega) (hF_h_5 _ _ (or_gt (by omega)) (by omega) (by omega)) e8v_20))⟩
            · refine lv_iconst (v := 0) hx hb dX11_layBreaks_66 (by decide) ?_
              refine lv_goto (tgt := 71) hx hb dX11_layBreaks_67 (by decide) ?_
              refine lv_aload_n hx hb dX11_layBreaks_71 rfl (lv_at hl 5 rfl) ?_
              refine va_get (D := D) (ci := 11) (v := .ref m_more) (C := RX11) (T := TX11) (N := 54) hx hb hts (by decide +kernel) hown hK hP 2 rfl rfl 32 (by decide) (hts (.fieldLink RX11 69 "LastLetterModel" "more" "[I") (by decide +kernel)) (fun _ h9 => h9) rfl dX11_layBreaks_72 ?_
              refine lv_bipush (v := 14) hx hb dX11_layBreaks_75 (by decide) ?_
              refine lv_iload_n hx hb dX11_layBreaks_77 rfl (lv_at hl 3 rfl) ?_
              refine lv_iconst (v := 1) hx hb dX11_layBreaks_78 (by decide) ?_
              refine lv_iload hx hb dX11_layBreaks_79 (lv_at hl 0 rfl) ?_
              refine lv_ishl hx hb dX11_layBreaks_81 ?_
              refine xb_top (y := nI (1 * 2 ^ o5)) (nb_shl (a := 1) (i := o5) (by omega)) ?_
              have hor_22 : st ||| 1 * 2 ^ o5 < sN := or_lt hs (by omega) (by omega)
              refine lv_ior hx hb dX11_layBreaks_82 ?_
              refine xb_top (y := nI (st ||| 1 * 2 ^ o5)) (nb_or _ _) ?_
              refine lv_imul hx hb dX11_layBreaks_83 ?_
              refine xb_top (y := nI (14 * (st ||| 1 * 2 ^ o5))) (pk_mul 14 (st ||| 1 * 2 ^ o5)) ?_
              refine lv_iload hx hb dX11_layBreaks_84 (lv_at hl 0 rfl) ?_
              refine lv_iadd hx hb dX11_layBreaks_86 ?_
              refine xb_top (y := nI ((14 * (st ||| 1 * 2 ^ o5)) + o5)) (nI_add (14 * (st ||| 1 * 2 ^ o5)) o5) ?_
              refine va_iald hx hb hK hP 0 1 rfl rfl (vp_in_nI (by omega) (by omega)) dX11_layBreaks_87 ?_
              refine xb_top (y := g5 ((14 * (st ||| 1 * 2 ^ o5)) + o5)) (by rw [nI_clamp (by omega)]) ?_
              refine lv_iadd hx hb dX11_layBreaks_88 ?_
              refine lv_topi (fun v_23 ev_23 => ?_)
              have e8v_23 : af1 f_follow k5 o5 + g5 (14 * (st ||| 1 * 2 ^ o5) + o5) = v_23 := by rw [ev_23]; unfold af1; rw [if_neg c_19]
              refine lv_istore (lv' := [(6, .int v_23), (5, .int (nI o5)), (4, .int be), (3, .int (nI k5)), (2, .int (nI st)), (1, .int (nI w)), (0, .ref o)]) hx hb dX11_layBreaks_89 hl (by decide) rfl (fun ls hl => ?_)
              refine lv_iload hx hb dX11_layBreaks_91 (lv_at hl 2 rfl) ?_
              refine lv_if_lt (tgt := 103) hx hb dX11_layBreaks_93 (by decide) (fun c_24 => ?_) (fun c_24 => ?_)
              · refine lv_iload hx hb dX11_layBreaks_103 (lv_at hl 0 rfl) ?_
                refine lv_goto (tgt := 110) hx hb dX11_layBreaks_105 (by decide) ?_
                refine lv_istore (lv' := [(4, .int v_23), (6, .int v_23), (5, .int (nI o5)), (3, .int (nI k5)), (2, .int (nI st)), (1, .int (nI w)), (0, .ref o)]) hx hb dX11_layBreaks_110 hl (by decide) rfl (fun ls hl => ?_)
                refine lv_iinc (v := nI (o5 + 1)) (lv' := [(5, .int (nI (o5 + 1))), (4, .int v_23), (6, .int v_23), (3, .int (nI k5)), (2, .int (nI st)), (1, .int (nI w)), (0, .ref o)]) hx hb dX11_layBreaks_112 hl (k := 2) rfl (nI_1 o5) (by decide) rfl (fun ls hl => ?_)
                refine lv_goto (tgt := 28) hx hb dX11_layBreaks_115 (by decide) ?_
                exact kk_28 _ _ _ _ (by rw [← hn_28]; omega) ⟨(o5 + 1), v_23, rfl, hP.sub [3, 0, 2, 1] rfl, hD.sub [3, 0, 2, 1] (by decide) rfl, hS, lv_sub hl [0, 1, 3, 4, 5, 6] rfl, (by omega), (Or.inr (B3_its (by omega) (by omega) (hF_h_5 _ _ (or_gt (by omega)) (by omega) (by omega)) e8v_23))⟩
              · refine lv_iload hx hb dX11_layBreaks_96 (lv_at hl 0 rfl) ?_
                refine lv_iload hx hb dX11_layBreaks_98 (lv_at hl 2 rfl) ?_
                refine lv_icmp_ge (tgt := 108) hx hb dX11_layBreaks_100 (by decide) (fun c_25 => ?_) (fun c_25 => ?_)
                · refine lv_iload hx hb dX11_layBreaks_108 (lv_at hl 2 rfl) ?_
                  refine lv_istore (lv' := [(4, .int be), (6, .int v_23), (5, .int (nI o5)), (3, .int (nI k5)), (2, .int (nI st)), (1, .int (nI w)), (0, .ref o)]) hx hb dX11_layBreaks_110 hl (by decide) rfl (fun ls hl => ?_)
                  refine lv_iinc (v := nI (o5 + 1)) (lv' := [(5, .int (nI (o5 + 1))), (4, .int be), (6, .int v_23), (3, .int (nI k5)), (2, .int (nI st)), (1, .int (nI w)), (0, .ref o)]) hx hb dX11_layBreaks_112 hl (k := 2) rfl (nI_1 o5) (by decide) rfl (fun ls hl => ?_)
                  refine lv_goto (tgt := 28) hx hb dX11_layBreaks_115 (by decide) ?_
                  exact kk_28 _ _ _ _ (by rw [← hn_28]; omega) ⟨(o5 + 1), be, rfl, hP.sub [3, 0, 2, 1] rfl, hD.sub [3, 0, 2, 1] (by decide) rfl, hS, lv_sub hl [0, 1, 3, 4, 5, 6] rfl, (by omega), (Or.elim hF_h_9 (fun hh => absurd (by rw [hh.1]; decide) c_24) (fun h => Or.inr h))⟩
                · refine lv_iload hx hb dX11_layBreaks_103 (lv_at hl 0 rfl) ?_
                  refine lv_goto (tgt := 110) hx hb dX11_layBreaks_105 (by decide) ?_
                  refine lv_istore (lv' := [(4, .int v_23), (6, .int v_23), (5, .int (nI o5)), (3, .int (nI k5)), (2, .int (nI st)), (1, .int (nI w)), (0, .ref o)]) hx hb dX11_layBreaks_110 hl (by decide) rfl (fun ls hl => ?_)
                  refine lv_iinc (v := nI (o5 + 1)) (lv' := [(5, .int (nI (o5 + 1))), (4, .int v_23), (6, .int v_23), (3, .int (nI k5)), (2, .int (nI st)), (1, .int (nI w)), (0, .ref o)]) hx hb dX11_layBreaks_112 hl (k := 2) rfl (nI_1 o5) (by decide) rfl (fun ls hl => ?_)
                  refine lv_goto (tgt := 28) hx hb dX11_layBreaks_115 (by decide) ?_
                  exact kk_28 _ _ _ _ (by rw [← hn_28]; omega) ⟨(o5 + 1), v_23, rfl, hP.sub [3, 0, 2, 1] rfl, hD.sub [3, 0, 2, 1] (by decide) rfl, hS, lv_sub hl [0, 1, 3, 4, 5, 6] rfl, (by omega), (Or.inr (B3_its (by omega) (by omega) (hF_h_5 _ _ (or_gt (by omega)) (by omega) (by omega)) e8v_23))⟩
          · have dc_18 : st / 2 ^ o5 % 2 = 1 := (nI_eq (a := st / 2 ^ o5 % 2) (b := 1) (by omega) (by omega)).mp c_18
            refine lv_goto (tgt := 112) hx hb dX11_layBreaks_53 (by decide) ?_
            refine lv_iinc (v := nI (o5 + 1)) (lv' := [(5, .int (nI (o5 + 1))), (4, .int be), (3, .int (nI k5)), (2, .int (nI st)), (1, .int (nI w)), (0, .ref o)]) hx hb dX11_layBreaks_112 hl (k := 0) rfl (nI_1 o5) (by decide) rfl (fun ls hl => ?_)
            refine lv_goto (tgt := 28) hx hb dX11_layBreaks_115 (by decide) ?_
            exact kk_28 _ _ _ _ (by rw [← hn_28]; omega) ⟨(o5 + 1), be, rfl, hP, hD, hS, lv_sub hl [0, 1, 2, 3, 4, 5] rfl, (by omega), (Or.elim hF_h_9 (fun hh => Or.inl ⟨hh.1, fun o ho => if h9 : o = o5 then (by subst h9; omega) else hh.2 o (by omega)⟩) (fun h => Or.inr h))⟩
