theorem dX11_layRound_0 : decode cX11_layRound 0 = .ok (.iconst 1, 1) := by decide +kernel
theorem dX11_layRound_1 : decode cX11_layRound 1 = .ok (.iload_n 1, 1) := by decide +kernel
theorem dX11_layRound_2 : decode cX11_layRound 2 = .ok (.ishl, 1) := by decide +kernel
theorem dX11_layRound_3 : decode cX11_layRound 3 = .ok (.iconst 1, 1) := by decide +kernel
theorem dX11_layRound_4 : decode cX11_layRound 4 = .ok (.isub, 1) := by decide +kernel
theorem dX11_layRound_5 : decode cX11_layRound 5 = .ok (.istore_n 2, 1) := by decide +kernel
theorem dX11_layRound_6 : decode cX11_layRound 6 = .ok (.iload_n 2, 1) := by decide +kernel
theorem dX11_layRound_7 : decode cX11_layRound 7 = .ok (.istore_n 3, 1) := by decide +kernel
theorem dX11_layRound_8 : decode cX11_layRound 8 = .ok (.iload_n 3, 1) := by decide +kernel
theorem dX11_layRound_9 : decode cX11_layRound 9 = .ok (.ifCond .le 129, 3) := by decide +kernel
theorem dX11_layRound_12 : decode cX11_layRound 12 = .ok (.iconst 0, 1) := by decide +kernel
theorem dX11_layRound_13 : decode cX11_layRound 13 = .ok (.istore 4, 2) := by decide +kernel
theorem dX11_layRound_15 : decode cX11_layRound 15 = .ok (.iload 4, 2) := by decide +kernel
theorem dX11_layRound_17 : decode cX11_layRound 17 = .ok (.iload_n 1, 1) := by decide +kernel
theorem dX11_layRound_18 : decode cX11_layRound 18 = .ok (.if_icmp .ge 114, 3) := by decide +kernel
theorem dX11_layRound_21 : decode cX11_layRound 21 = .ok (.iload_n 3, 1) := by decide +kernel
theorem dX11_layRound_22 : decode cX11_layRound 22 = .ok (.iload_n 2, 1) := by decide +kernel
theorem dX11_layRound_23 : decode cX11_layRound 23 = .ok (.if_icmp .ne 17, 3) := by decide +kernel
theorem dX11_layRound_26 : decode cX11_layRound 26 = .ok (.aload_n 0, 1) := by decide +kernel
theorem dX11_layRound_27 : decode cX11_layRound 27 = .ok (.iload 4, 2) := by decide +kernel
theorem dX11_layRound_29 : decode cX11_layRound 29 = .ok (.iconst 0, 1) := by decide +kernel
theorem dX11_layRound_30 : decode cX11_layRound 30 = .ok (.invokevirtual 291, 3) := by decide +kernel
theorem dX11_layRound_33 : decode cX11_layRound 33 = .ok (.ifCond .eq 7, 3) := by decide +kernel
theorem dX11_layRound_36 : decode cX11_layRound 36 = .ok (.iconst 1, 1) := by decide +kernel
theorem dX11_layRound_37 : decode cX11_layRound 37 = .ok (.goto 4, 3) := by decide +kernel
theorem dX11_layRound_40 : decode cX11_layRound 40 = .ok (.iconst 0, 1) := by decide +kernel
theorem dX11_layRound_41 : decode cX11_layRound 41 = .ok (.istore 5, 2) := by decide +kernel
theorem dX11_layRound_43 : decode cX11_layRound 43 = .ok (.iconst 0, 1) := by decide +kernel
theorem dX11_layRound_44 : decode cX11_layRound 44 = .ok (.istore 6, 2) := by decide +kernel
theorem dX11_layRound_46 : decode cX11_layRound 46 = .ok (.iload 6, 2) := by decide +kernel
theorem dX11_layRound_48 : decode cX11_layRound 48 = .ok (.iload_n 1, 1) := by decide +kernel
theorem dX11_layRound_49 : decode cX11_layRound 49 = .ok (.if_icmp .ge 63, 3) := by decide +kernel
theorem dX11_layRound_52 : decode cX11_layRound 52 = .ok (.iload 5, 2) := by decide +kernel
theorem dX11_layRound_54 : decode cX11_layRound 54 = .ok (.ifCond .ne 58, 3) := by decide +kernel
theorem dX11_layRound_57 : decode cX11_layRound 57 = .ok (.iload_n 3, 1) := by decide +kernel
theorem dX11_layRound_58 : decode cX11_layRound 58 = .ok (.iload 4, 2) := by decide +kernel
theorem dX11_layRound_60 : decode cX11_layRound 60 = .ok (.ishr, 1) := by decide +kernel
theorem dX11_layRound_61 : decode cX11_layRound 61 = .ok (.iconst 1, 1) := by decide +kernel
theorem dX11_layRound_62 : decode cX11_layRound 62 = .ok (.iand, 1) := by decide +kernel
theorem dX11_layRound_63 : decode cX11_layRound 63 = .ok (.iconst 1, 1) := by decide +kernel
theorem dX11_layRound_64 : decode cX11_layRound 64 = .ok (.if_icmp .ne 48, 3) := by decide +kernel
theorem dX11_layRound_67 : decode cX11_layRound 67 = .ok (.iload_n 3, 1) := by decide +kernel
theorem dX11_layRound_68 : decode cX11_layRound 68 = .ok (.iload 6, 2) := by decide +kernel
theorem dX11_layRound_70 : decode cX11_layRound 70 = .ok (.ishr, 1) := by decide +kernel
theorem dX11_layRound_71 : decode cX11_layRound 71 = .ok (.iconst 1, 1) := by decide +kernel
theorem dX11_layRound_72 : decode cX11_layRound 72 = .ok (.iand, 1) := by decide +kernel
theorem dX11_layRound_73 : decode cX11_layRound 73 = .ok (.ifCond .ne 33, 3) := by decide +kernel
theorem dX11_layRound_76 : decode cX11_layRound 76 = .ok (.aload_n 0, 1) := by decide +kernel
theorem dX11_layRound_77 : decode cX11_layRound 77 = .ok (.iload 4, 2) := by decide +kernel
theorem dX11_layRound_79 : decode cX11_layRound 79 = .ok (.iload 6, 2) := by decide +kernel
theorem dX11_layRound_81 : decode cX11_layRound 81 = .ok (.invokevirtual 291, 3) := by decide +kernel
theorem dX11_layRound_84 : decode cX11_layRound 84 = .ok (.ifCond .eq 22, 3) := by decide +kernel
theorem dX11_layRound_87 : decode cX11_layRound 87 = .ok (.aload_n 0, 1) := by decide +kernel
theorem dX11_layRound_88 : decode cX11_layRound 88 = .ok (.getfield 69, 3) := by decide +kernel
theorem dX11_layRound_91 : decode cX11_layRound 91 = .ok (.bipush 14, 2) := by decide +kernel
theorem dX11_layRound_93 : decode cX11_layRound 93 = .ok (.iload_n 3, 1) := by decide +kernel
theorem dX11_layRound_94 : decode cX11_layRound 94 = .ok (.iconst 1, 1) := by decide +kernel
theorem dX11_layRound_95 : decode cX11_layRound 95 = .ok (.iload 6, 2) := by decide +kernel
theorem dX11_layRound_97 : decode cX11_layRound 97 = .ok (.ishl, 1) := by decide +kernel
theorem dX11_layRound_98 : decode cX11_layRound 98 = .ok (.ior, 1) := by decide +kernel
theorem dX11_layRound_99 : decode cX11_layRound 99 = .ok (.imul, 1) := by decide +kernel
theorem dX11_layRound_100 : decode cX11_layRound 100 = .ok (.iload 6, 2) := by decide +kernel
theorem dX11_layRound_102 : decode cX11_layRound 102 = .ok (.iadd, 1) := by decide +kernel
theorem dX11_layRound_103 : decode cX11_layRound 103 = .ok (.iaload, 1) := by decide +kernel
theorem dX11_layRound_104 : decode cX11_layRound 104 = .ok (.istore 5, 2) := by decide +kernel
theorem dX11_layRound_106 : decode cX11_layRound 106 = .ok (.iinc 6 1, 3) := by decide +kernel
theorem dX11_layRound_109 : decode cX11_layRound 109 = .ok (.goto (-63), 3) := by decide +kernel
theorem dX11_layRound_112 : decode cX11_layRound 112 = .ok (.aload_n 0, 1) := by decide +kernel
theorem dX11_layRound_113 : decode cX11_layRound 113 = .ok (.getfield 69, 3) := by decide +kernel
theorem dX11_layRound_116 : decode cX11_layRound 116 = .ok (.bipush 14, 2) := by decide +kernel
theorem dX11_layRound_118 : decode cX11_layRound 118 = .ok (.iload_n 3, 1) := by decide +kernel
theorem dX11_layRound_119 : decode cX11_layRound 119 = .ok (.imul, 1) := by decide +kernel
theorem dX11_layRound_120 : decode cX11_layRound 120 = .ok (.iload 4, 2) := by decide +kernel
theorem dX11_layRound_122 : decode cX11_layRound 122 = .ok (.iadd, 1) := by decide +kernel
theorem dX11_layRound_123 : decode cX11_layRound 123 = .ok (.iload 5, 2) := by decide +kernel
theorem dX11_layRound_125 : decode cX11_layRound 125 = .ok (.iastore, 1) := by decide +kernel
theorem dX11_layRound_126 : decode cX11_layRound 126 = .ok (.iinc 4 1, 3) := by decide +kernel
theorem dX11_layRound_129 : decode cX11_layRound 129 = .ok (.goto (-114), 3) := by decide +kernel
theorem dX11_layRound_132 : decode cX11_layRound 132 = .ok (.iinc 3 (-1), 3) := by decide +kernel
theorem dX11_layRound_135 : decode cX11_layRound 135 = .ok (.goto (-127), 3) := by decide +kernel
theorem dX11_layRound_138 : decode cX11_layRound 138 = .ok (.aload_n 0, 1) := by decide +kernel
theorem dX11_layRound_139 : decode cX11_layRound 139 = .ok (.getfield 69, 3) := by decide +kernel
theorem dX11_layRound_142 : decode cX11_layRound 142 = .ok (.bipush 14, 2) := by decide +kernel
theorem dX11_layRound_144 : decode cX11_layRound 144 = .ok (.iaload, 1) := by decide +kernel
theorem dX11_layRound_145 : decode cX11_layRound 145 = .ok (.ifCond .ne 5, 3) := by decide +kernel
theorem dX11_layRound_148 : decode cX11_layRound 148 = .ok (.iconst 0, 1) := by decide +kernel
theorem dX11_layRound_149 : decode cX11_layRound 149 = .ok (.ireturn, 1) := by decide +kernel
theorem dX11_layRound_150 : decode cX11_layRound 150 = .ok (.iconst 1, 1) := by decide +kernel
theorem dX11_layRound_151 : decode cX11_layRound 151 = .ok (.istore_n 3, 1) := by decide +kernel
theorem dX11_layRound_152 : decode cX11_layRound 152 = .ok (.iconst 0, 1) := by decide +kernel
theorem dX11_layRound_153 : decode cX11_layRound 153 = .ok (.istore 4, 2) := by decide +kernel
theorem dX11_layRound_155 : decode cX11_layRound 155 = .ok (.aload_n 0, 1) := by decide +kernel
theorem dX11_layRound_156 : decode cX11_layRound 156 = .ok (.iconst 0, 1) := by decide +kernel
theorem dX11_layRound_157 : decode cX11_layRound 157 = .ok (.invokevirtual 327, 3) := by decide +kernel
theorem dX11_layRound_160 : decode cX11_layRound 160 = .ok (.iload_n 3, 1) := by decide +kernel
theorem dX11_layRound_161 : decode cX11_layRound 161 = .ok (.iload_n 2, 1) := by decide +kernel
theorem dX11_layRound_162 : decode cX11_layRound 162 = .ok (.if_icmp .eq 73, 3) := by decide +kernel
theorem dX11_layRound_165 : decode cX11_layRound 165 = .ok (.iconst 0, 1) := by decide +kernel
theorem dX11_layRound_166 : decode cX11_layRound 166 = .ok (.istore 5, 2) := by decide +kernel
theorem dX11_layRound_168 : decode cX11_layRound 168 = .ok (.iload_n 3, 1) := by decide +kernel
theorem dX11_layRound_169 : decode cX11_layRound 169 = .ok (.iload 5, 2) := by decide +kernel
theorem dX11_layRound_171 : decode cX11_layRound 171 = .ok (.ishr, 1) := by decide +kernel
theorem dX11_layRound_172 : decode cX11_layRound 172 = .ok (.iconst 1, 1) := by decide +kernel
theorem dX11_layRound_173 : decode cX11_layRound 173 = .ok (.iand, 1) := by decide +kernel
theorem dX11_layRound_174 : decode cX11_layRound 174 = .ok (.iconst 1, 1) := by decide +kernel
theorem dX11_layRound_175 : decode cX11_layRound 175 = .ok (.if_icmp .eq 34, 3) := by decide +kernel
theorem dX11_layRound_178 : decode cX11_layRound 178 = .ok (.aload_n 0, 1) := by decide +kernel
theorem dX11_layRound_179 : decode cX11_layRound 179 = .ok (.iload 4, 2) := by decide +kernel
theorem dX11_layRound_181 : decode cX11_layRound 181 = .ok (.iload 5, 2) := by decide +kernel
theorem dX11_layRound_183 : decode cX11_layRound 183 = .ok (.invokevirtual 291, 3) := by decide +kernel
theorem dX11_layRound_186 : decode cX11_layRound 186 = .ok (.ifCond .eq 23, 3) := by decide +kernel
theorem dX11_layRound_189 : decode cX11_layRound 189 = .ok (.aload_n 0, 1) := by decide +kernel
theorem dX11_layRound_190 : decode cX11_layRound 190 = .ok (.getfield 69, 3) := by decide +kernel
theorem dX11_layRound_193 : decode cX11_layRound 193 = .ok (.bipush 14, 2) := by decide +kernel
theorem dX11_layRound_195 : decode cX11_layRound 195 = .ok (.iload_n 3, 1) := by decide +kernel
theorem dX11_layRound_196 : decode cX11_layRound 196 = .ok (.iconst 1, 1) := by decide +kernel
theorem dX11_layRound_197 : decode cX11_layRound 197 = .ok (.iload 5, 2) := by decide +kernel
theorem dX11_layRound_199 : decode cX11_layRound 199 = .ok (.ishl, 1) := by decide +kernel
theorem dX11_layRound_200 : decode cX11_layRound 200 = .ok (.ior, 1) := by decide +kernel
theorem dX11_layRound_201 : decode cX11_layRound 201 = .ok (.imul, 1) := by decide +kernel
theorem dX11_layRound_202 : decode cX11_layRound 202 = .ok (.iload 5, 2) := by decide +kernel
theorem dX11_layRound_204 : decode cX11_layRound 204 = .ok (.iadd, 1) := by decide +kernel
theorem dX11_layRound_205 : decode cX11_layRound 205 = .ok (.iaload, 1) := by decide +kernel
theorem dX11_layRound_206 : decode cX11_layRound 206 = .ok (.ifCond .ne 9, 3) := by decide +kernel
theorem dX11_layRound_209 : decode cX11_layRound 209 = .ok (.iinc 5 1, 3) := by decide +kernel
theorem dX11_layRound_212 : decode cX11_layRound 212 = .ok (.goto (-44), 3) := by decide +kernel
theorem dX11_layRound_215 : decode cX11_layRound 215 = .ok (.iload_n 3, 1) := by decide +kernel
theorem dX11_layRound_216 : decode cX11_layRound 216 = .ok (.iconst 1, 1) := by decide +kernel
theorem dX11_layRound_217 : decode cX11_layRound 217 = .ok (.iload 5, 2) := by decide +kernel
theorem dX11_layRound_219 : decode cX11_layRound 219 = .ok (.ishl, 1) := by decide +kernel
theorem dX11_layRound_220 : decode cX11_layRound 220 = .ok (.ior, 1) := by decide +kernel
theorem dX11_layRound_221 : decode cX11_layRound 221 = .ok (.istore_n 3, 1) := by decide +kernel
theorem dX11_layRound_222 : decode cX11_layRound 222 = .ok (.iload 5, 2) := by decide +kernel
theorem dX11_layRound_224 : decode cX11_layRound 224 = .ok (.istore 4, 2) := by decide +kernel
theorem dX11_layRound_226 : decode cX11_layRound 226 = .ok (.aload_n 0, 1) := by decide +kernel
theorem dX11_layRound_227 : decode cX11_layRound 227 = .ok (.iload 5, 2) := by decide +kernel
theorem dX11_layRound_229 : decode cX11_layRound 229 = .ok (.invokevirtual 327, 3) := by decide +kernel
theorem dX11_layRound_232 : decode cX11_layRound 232 = .ok (.goto (-72), 3) := by decide +kernel
theorem dX11_layRound_235 : decode cX11_layRound 235 = .ok (.iconst 1, 1) := by decide +kernel
theorem dX11_layRound_236 : decode cX11_layRound 236 = .ok (.ireturn, 1) := by decide +kernel
set_option maxRecDepth 20000 in
theorem ggX11_layRound_X11_isAfter : GoodIn wsX11_layRound wsX11_isAfter := goodIn_r _ [6, 7, 14, 15, 16, 17, 18, 19, 20, 21, 22, 23, 24, 25, 26, 27, 28, 29, 30, 31, 32, 33, 34, 35, 36, 37, 38, 39, 40, 41, 42, 43, 44, 45, 46, 47, 48, 49, 50, 51, 52, 53, 54, 55, 56, 57, 58, 59, 60, 61, 62, 63, 64, 65, 66, 67] (by decide +kernel) (by decide +kernel)
set_option maxRecDepth 20000 in
theorem gX11_layRound_X11_isAfter : GoodIn wsX11_layRound (wsV RX11 291 RX11 yX11_isAfter wsX11_isAfter) := goodIn_app (goodIn_of _ (by decide +kernel)) ggX11_layRound_X11_isAfter
set_option maxRecDepth 20000 in
theorem ggX11_layRound_X11_lay : GoodIn wsX11_layRound wsX11_lay := goodIn_r _ [11, 12, 13, 14, 15, 16, 17, 18, 19, 20, 21, 22, 23, 24, 25, 26, 27, 28, 29, 30, 31, 32, 33, 34, 35, 36, 37, 38, 39, 40, 41, 42, 43, 44, 45, 46, 47, 48, 49, 50, 51, 52, 53, 54, 55, 56, 57, 58, 59, 60, 61, 62, 63, 64, 65, 66, 67] (by decide +kernel) (by decide +kernel)
set_option maxRecDepth 20000 in
theorem gX11_layRound_X11_lay : GoodIn wsX11_layRound (wsV RX11 327 RX11 yX11_lay wsX11_lay) := goodIn_app (goodIn_of _ (by decide +kernel)) ggX11_layRound_X11_lay
def R2 (ff : Nat → Int32) (w sN : Nat) (f : Nat → Int32) (s k : Nat) : Prop := f (14 * s + k) = 0 ∨ s = sN - 1 ∨ ∃ o, o < w ∧ s / 2 ^ o % 2 = 0 ∧ ¬ aft ff k o = 0 ∧ ¬ f (14 * (s ||| 1 * 2 ^ o) + o) = 0
theorem R2_loc {ff : Nat → Int32} {w sN : Nat} : Loc (R2 ff w sN) w := by
  intro f g s k h1 h2 h
  rcases h with h | h | ⟨o, a1, a2, a3, a4⟩
  · exact Or.inl (h2.trans h)
  · exact Or.inr (Or.inl h)
  · exact Or.inr (Or.inr ⟨o, a1, a2, a3, by rw [h1 _ o (or_gt a2) a1]; exact a4⟩)
theorem R2_new {ff : Nat → Int32} {w sN st k : Nat} {f g : Nat → Int32} {be : Int32} (hw : w ≤ 14) (h31 : 14 * st + k < 2 ^ 31) (hk : k < w) (h : be = 0 ∨ st = sN - 1 ∨ ∃ o, o < w ∧ st / 2 ^ o % 2 = 0 ∧ ¬ aft ff k o = 0 ∧ ¬ f (14 * (st ||| 1 * 2 ^ o) + o) = 0) (e : upd f (Int32.toNatClampNeg (nI (14 * st + k))) be = g) : R2 ff w sN g st k := by
  have e1 : g (14 * st + k) = be := up_at h31 e
  rcases h with h | h | ⟨o, a1, a2, a3, a4⟩
  · exact Or.inl (e1.trans h)
  · exact Or.inr (Or.inl h)
  · refine Or.inr (Or.inr ⟨o, a1, a2, a3, ?_⟩)
    have h5 := or_gt a2
    rw [tbl_ne h31 (by omega) (by omega) (Or.inl (by omega)) e]
    exact a4
def af1 (ff : Nat → Int32) (k o : Nat) : Int32 := if aft ff k o = 0 then 1 else 0
def R3 (ff : Nat → Int32) (w sN : Nat) (f : Nat → Int32) (s k : Nat) : Prop := (∃ q, q + s ≤ sN ∧ f (14 * s + k) = nI q) ∧ (s / 2 ^ k % 2 = 1 → s ≠ sN - 1 → ∃ o, o < w ∧ s / 2 ^ o % 2 = 0 ∧ af1 ff k o + f (14 * (s ||| 1 * 2 ^ o) + o) = f (14 * s + k))
theorem R3_loc {ff : Nat → Int32} {w sN : Nat} : Loc (R3 ff w sN) w := by
  intro f g s k h1 h2 h
  obtain ⟨⟨q, hq, e⟩, h⟩ := h
  refine ⟨⟨q, hq, h2.trans e⟩, fun b1 b2 => ?_⟩
  obtain ⟨o, a1, a2, a4⟩ := h b1 b2
  exact ⟨o, a1, a2, by rw [h1 _ o (or_gt a2) a1, h2]; exact a4⟩
theorem full_of {w s : Nat} (hs : s < 2 ^ w) (h : ∀ o, o < w → s / 2 ^ o % 2 = 1) : s = 2 ^ w - 1 := by
  apply Nat.eq_of_testBit_eq
  intro i
  rw [Nat.testBit_two_pow_sub_one, tb_bit]
  by_cases hi : i < w
  · rw [h i hi]; simp [hi]
  · have h2 : s < 2 ^ i := Nat.lt_of_lt_of_le hs (Nat.pow_le_pow_right (by decide) (by omega))
    rw [Nat.div_eq_of_lt h2]; simp [hi]
theorem full_bc {w : Nat} : bc w (2 ^ w - 1) = w := by
  apply bc_full
  intro o ho
  have h1 := tb_bit (2 ^ w - 1) o
  rw [Nat.testBit_two_pow_sub_one] at h1
  have h2 : decide ((2 ^ w - 1) / 2 ^ o % 2 = 1) = true := by rw [← h1]; simp [ho]
  exact of_decide_eq_true h2
def B3 (ff : Nat → Int32) (w sN : Nat) (g : Nat → Int32) (st k o5 : Nat) (be : Int32) : Prop := (be = -1 ∧ ∀ o, o < o5 → st / 2 ^ o % 2 = 1) ∨ ∃ q, q + st ≤ sN ∧ be = nI q ∧ ∃ o, o < w ∧ st / 2 ^ o % 2 = 0 ∧ af1 ff k o + g (14 * (st ||| 1 * 2 ^ o) + o) = be
theorem R3_new {ff : Nat → Int32} {w sN st k : Nat} {f g : Nat → Int32} {be v : Int32} (hN : sN = 2 ^ w) (hst : st < sN) (hs2 : sN ≤ 16384) (hw : w ≤ 14) (h31 : 14 * st + k < 2 ^ 31) (hk : k < w) (o5 : Nat) (ho : st / 2 ^ k % 2 = 1 → w ≤ o5) (h : B3 ff w sN f st k o5 be) (hv : (be < 0 ∧ v = 0) ∨ (¬ be < 0 ∧ v = be)) (e : upd f (Int32.toNatClampNeg (nI (14 * st + k))) v = g) : R3 ff w sN g st k := by
  have e1 : g (14 * st + k) = v := up_at h31 e
  rcases h with ⟨h1, h2⟩ | ⟨q, hq, eq, o, a1, a2, a4⟩
  · have hv0 : v = 0 := by
      rcases hv with ⟨-, h⟩ | ⟨h, -⟩
      · exact h
      · rw [h1] at h; exact absurd (by decide) h
    refine ⟨⟨0, by omega, e1.trans hv0⟩, fun b1 b2 => absurd ?_ b2⟩
    rw [hN]
    exact full_of (by rw [← hN]; exact hst) (fun o h3 => h2 o (by have := ho b1; omega))
  · have hv0 : v = be := by
      rcases hv with ⟨h, -⟩ | ⟨-, h⟩
      · rw [eq] at h; exact absurd h (nI_pos (by omega))
      · exact h
    refine ⟨⟨q, hq, e1.trans (hv0.trans eq)⟩, fun _ _ => ⟨o, a1, a2, ?_⟩⟩
    have h5 := or_gt a2
    rw [tbl_ne h31 (by omega) (by omega) (Or.inl (by omega)) e, e1, hv0]
    exact a4
theorem B3_its {ff : Nat → Int32} {w sN st k o : Nat} {g : Nat → Int32} {its : Int32} (ho : o < w) (hb : st / 2 ^ o % 2 = 0) (hR : R3 ff w sN g (st ||| 1 * 2 ^ o) o) (e : af1 ff k o + g (14 * (st ||| 1 * 2 ^ o) + o) = its) : ∃ q, q + st ≤ sN ∧ its = nI q ∧ ∃ o, o < w ∧ st / 2 ^ o % 2 = 0 ∧ af1 ff k o + g (14 * (st ||| 1 * 2 ^ o) + o) = its := by
  obtain ⟨⟨q, hq, eq⟩, -⟩ := hR
  have h5 := or_gt hb
  have h6 : ∃ q2, q2 ≤ q + 1 ∧ its = nI q2 := by
    rw [← e, eq]
    unfold af1
    by_cases h : aft ff k o = 0
    · rw [if_pos h]; exact ⟨1 + q, by omega, nI_add 1 q⟩
    · rw [if_neg h]; exact ⟨0 + q, by omega, nI_add 0 q⟩
  obtain ⟨q2, hq2, e2⟩ := h6
  exact ⟨q2, by omega, e2, o, ho, hb, e⟩
set_option maxHeartbeats 4000000 in
set_option maxRecDepth 100000 in
theorem c_X11_layRound (l : Launch) (D : va_G) (cB cI cJ cS cZ cO : ClassId) (sz : Nat) (o : Nat) (w : Nat) (m_tape : Nat) (m_text : Nat) (m_taped : Int32) (m_size : Int32) (m_faultKind : Int32) (m_faultPlace : Int32) (m_at : Int32) (m_end : Int32) (m_token : Int32) (m_number : Int32) (m_name : Int64) (m_words : Nat) (m_errands : Nat) (m_alikes : Nat) (m_law : Nat) (m_worth : Nat) (m_times : Nat) (m_eWord : Nat) (m_eAfter : Nat) (m_sound : Nat) (m_isLaw : Nat) (m_wName : Nat) (bk : Nat) (m_rb : Int32) (m_follow : Nat) (m_lengths : Nat) (m_said : Nat) (m_latest : Int32) (m_talked : Int32) (m_sum : Int32) (m_doneSet : Int32) (m_w : Int32) (m_more : Nat) (m_laidRow : Nat) (ld : Nat) (m_piece : Nat) (m_far : Nat) (m_steps : Nat) (m_ends : Nat) (m_hPlace : Nat) (m_hWhat : Nat) (m_hValue : Nat) (m_hTold : Nat) (m_hUntold : Nat) (m_sounds : Int32) (m_time : Int32) (m_ways : Nat) (m_goesOn : Nat) (m_boxMany : Nat) (m_boxLatest : Nat) (m_boxSum : Nat) (m_boxW : Nat) (m_boxDone : Nat) (m_boxSaid : Nat) (f_follow : Nat → Int32) (f_more : Nat → Int32) (f_laidRow : Nat → Int32) (sN : Nat) (hs : sN = 2 ^ w) (hw4 : w ≤ 14) (hs1 : 1 ≤ sN) (hs2 : sN ≤ 16384) (hw1 : 1 ≤ w) (hld : ld = 0) (hbk : bk ≤ 1) : Met l yX11_layRound wsX11_layRound ({ frames := 1, cells := 0, slots := 0, locals := 22 }) (xPre D (tyL cB cI cJ cS cZ cO) [(o, .inr (11, [.ref m_tape, .ref m_text, .int m_taped, .int m_size, .int m_faultKind, .int m_faultPlace, .int m_at, .int m_end, .int m_token, .int m_number, .long m_name, .ref m_words, .ref m_errands, .ref m_alikes, .ref m_law, .ref m_worth, .ref m_times, .ref m_eWord, .ref m_eAfter, .ref m_sound, .ref m_isLaw, .ref m_wName, .int (nI bk), .int m_rb, .ref m_follow, .ref m_lengths, .ref m_said, .int m_latest, .int m_talked, .int m_sum, .int m_doneSet, .int m_w, .ref m_more, .ref m_laidRow, .int (nI ld), .ref m_piece, .ref m_far, .ref m_steps, .ref m_ends, .ref m_hPlace, .ref m_hWhat, .ref m_hValue, .ref m_hTold, .ref m_hUntold, .int m_sounds, .int m_time, .ref m_ways, .ref m_goesOn, .ref m_boxMany, .ref m_boxLatest, .ref m_boxSum, .ref m_boxW, .ref m_boxDone, .ref m_boxSaid])), (m_follow, .inl (cI, 24, .inl f_follow)), (m_more, .inl (cI, 229376, .inl f_more)), (m_laidRow, .inl (cI, 200, .inl f_laidRow))] sz [.ref o, .int (nI w)]) (xQi D (tyL cB cI cJ cS cZ cO) (va_A [(o, .inr (11, [.ref m_tape, .ref m_text, .int m_taped, .int m_size, .int m_faultKind, .int m_faultPlace, .int m_at, .int m_end, .int m_token, .int m_number, .long m_name, .ref m_words, .ref m_errands, .ref m_alikes, .ref m_law, .ref m_worth, .ref m_times, .ref m_eWord, .ref m_eAfter, .ref m_sound, .ref m_isLaw, .ref m_wName, .int (nI bk), .int m_rb, .ref m_follow, .ref m_lengths, .ref m_said, .int m_latest, .int m_talked, .int m_sum, .int m_doneSet, .int m_w, .ref m_more, .ref m_laidRow, .int (nI ld), .ref m_piece, .ref m_far, .ref m_steps, .ref m_ends, .ref m_hPlace, .ref m_hWhat, .ref m_hValue, .ref m_hTold, .ref m_hUntold, .int m_sounds, .int m_time, .ref m_ways, .ref m_goesOn, .ref m_boxMany, .ref m_boxLatest, .ref m_boxSum, .ref m_boxW, .ref m_boxDone, .ref m_boxSaid])), (m_follow, .inl (cI, 24, .inl f_follow)), (m_more, .inl (cI, 229376, .inl f_more)), (m_laidRow, .inl (cI, 200, .inl f_laidRow))] sz) (fun (r : Int32) (u : va_W) => ∃ ld2 : Nat, ∃ g_more : Nat → Int32, ∃ g_laidRow : Nat → Int32, u = [(o, .inr (11, [.ref m_tape, .ref m_text, .int m_taped, .int m_size, .int m_faultKind, .int m_faultPlace, .int m_at, .int m_end, .int m_token, .int m_number, .long m_name, .ref m_words, .ref m_errands, .ref m_alikes, .ref m_law, .ref m_worth, .ref m_times, .ref m_eWord, .ref m_eAfter, .ref m_sound, .ref m_isLaw, .ref m_wName, .int (nI bk), .int m_rb, .ref m_follow, .ref m_lengths, .ref m_said, .int m_latest, .int m_talked, .int m_sum, .int m_doneSet, .int m_w, .ref m_more, .ref m_laidRow, .int (nI ld2), .ref m_piece, .ref m_far, .ref m_steps, .ref m_ends, .ref m_hPlace, .ref m_hWhat, .ref m_hValue, .ref m_hTold, .ref m_hUntold, .int m_sounds, .int m_time, .ref m_ways, .ref m_goesOn, .ref m_boxMany, .ref m_boxLatest, .ref m_boxSum, .ref m_boxW, .ref m_boxDone, .ref m_boxSaid])), (m_follow, .inl (cI, 24, .inl f_follow)), (m_more, .inl (cI, 229376, .inl g_more)), (m_laidRow, .inl (cI, 200, .inl g_laidRow))] ∧ (r = 0 ∨ r = 1) ∧ ld2 ≤ 14)) 0 0 (va_A [(o, .inr (11, [.ref m_tape, .ref m_text, .int m_taped, .int m_size, .int m_faultKind, .int m_faultPlace, .int m_at, .int m_end, .int m_token, .int m_number, .long m_name, .ref m_words, .ref m_errands, .ref m_alikes, .ref m_law, .ref m_worth, .ref m_times, .ref m_eWord, .ref m_eAfter, .ref m_sound, .ref m_isLaw, .ref m_wName, .int (nI bk), .int m_rb, .ref m_follow, .ref m_lengths, .ref m_said, .int m_latest, .int m_talked, .int m_sum, .int m_doneSet, .int m_w, .ref m_more, .ref m_laidRow, .int (nI ld), .ref m_piece, .ref m_far, .ref m_steps, .ref m_ends, .ref m_hPlace, .ref m_hWhat, .ref m_hValue, .ref m_hTold, .ref m_hUntold, .int m_sounds, .int m_time, .ref m_ways, .ref m_goesOn, .ref m_boxMany, .ref m_boxLatest, .ref m_boxSum, .ref m_boxW, .ref m_boxDone, .ref m_boxSaid])), (m_follow, .inl (cI, 24, .inl f_follow)), (m_more, .inl (cI, 229376, .inl f_more)), (m_laidRow, .inl (cI, 200, .inl f_laidRow))] sz) := by
  refine Met.ofW (cc := cX11_layRound) (maxL := 7) (ret := (some .boolean)) (by decide) rfl ?_
  intro p e s m args below meth c s₁ B hml hv
  obtain ⟨rfl, hsz, hP, hK, hD0, hN⟩ := hv
  have hx := B.exec
  have hb := B.bytes
  have hr := B.returns
  have hts := atoms_spec (ws := wsX11_layRound) B.pre
  have hown : s.vm.findClass RX11 = some m.cls := findClass_of_methodNamed B.named
  have hlocks := B.notSynchronized
  subst hsz
  have hD := hD0.self (sz := s.heap.size)
  generalize hAe : va_A [(o, .inr (11, [.ref m_tape, .ref m_text, .int m_taped, .int m_size, .int m_faultKind, .int m_faultPlace, .int m_at, .int m_end, .int m_token, .int m_number, .long m_name, .ref m_words, .ref m_errands, .ref m_alikes, .ref m_law, .ref m_worth, .ref m_times, .ref m_eWord, .ref m_eAfter, .ref m_sound, .ref m_isLaw, .ref m_wName, .int (nI bk), .int m_rb, .ref m_follow, .ref m_lengths, .ref m_said, .int m_latest, .int m_talked, .int m_sum, .int m_doneSet, .int m_w, .ref m_more, .ref m_laidRow, .int (nI ld), .ref m_piece, .ref m_far, .ref m_steps, .ref m_ends, .ref m_hPlace, .ref m_hWhat, .ref m_hValue, .ref m_hTold, .ref m_hUntold, .int m_sounds, .int m_time, .ref m_ways, .ref m_goesOn, .ref m_boxMany, .ref m_boxLatest, .ref m_boxSum, .ref m_boxW, .ref m_boxDone, .ref m_boxSaid])), (m_follow, .inl (cI, 24, .inl f_follow)), (m_more, .inl (cI, 229376, .inl f_more)), (m_laidRow, .inl (cI, 200, .inl f_laidRow))] s.heap.size = A at hD ⊢
  have hA : ∀ q : Nat, s.heap.size ≤ q → A q := fun q h => by rw [← hAe]; exact Or.inr h
  have hS : va_S A s.heap s.heap [] := va_S.rf
  have hP : va_P D vwCl [(o, .inr (11, [.ref m_tape, .ref m_text, .int m_taped, .int m_size, .int m_faultKind, .int m_faultPlace, .int m_at, .int m_end, .int m_token, .int m_number, .long m_name, .ref m_words, .ref m_errands, .ref m_alikes, .ref m_law, .ref m_worth, .ref m_times, .ref m_eWord, .ref m_eAfter, .ref m_sound, .ref m_isLaw, .ref m_wName, .int (nI bk), .int m_rb, .ref m_follow, .ref m_lengths, .ref m_said, .int m_latest, .int m_talked, .int m_sum, .int m_doneSet, .int m_w, .ref m_more, .ref m_laidRow, .int (nI ld), .ref m_piece, .ref m_far, .ref m_steps, .ref m_ends, .ref m_hPlace, .ref m_hWhat, .ref m_hValue, .ref m_hTold, .ref m_hUntold, .int m_sounds, .int m_time, .ref m_ways, .ref m_goesOn, .ref m_boxMany, .ref m_boxLatest, .ref m_boxSum, .ref m_boxW, .ref m_boxDone, .ref m_boxSaid])), (m_follow, .inl (cI, 24, .inl f_follow)), (m_more, .inl (cI, 229376, .inl f_more)), (m_laidRow, .inl (cI, 200, .inl f_laidRow))] s.heap := hP
  have hl := lv_entry ([.ref o, .int (nI w)]) (n := 7) (Nat.le_of_ble_eq_true rfl)
  rw [lg_entry_eq]
  generalize (lg_sl ([.ref o, .int (nI w)]) ++ List.replicate (7 - (lg_sl ([.ref o, .int (nI w)])).length) Slot.unset).toArray = ls at hl ⊢
  have hl : lv_has ls 7 [(0, .ref o), (1, .int (nI w))] := hl
  refine lv_iconst (v := 1) hx hb dX11_layRound_0 (by decide) ?_
  refine lv_iload_n hx hb dX11_layRound_1 rfl (lv_at hl 1 rfl) ?_
  refine lv_ishl hx hb dX11_layRound_2 ?_
  refine xb_top (y := nI sN) (by rw [hs]; exact (nb_shl (a := 1) (i := w) (by omega)).trans (by rw [Nat.one_mul])) ?_
  refine lv_iconst (v := 1) hx hb dX11_layRound_3 (by decide) ?_
  refine lv_isub hx hb dX11_layRound_4 ?_
  refine xb_top (y := nI (sN - 1)) (pk_sub (a := sN) (b := 1) (by omega)) ?_
  refine lv_istore_n (lv' := [(2, .int (nI (sN - 1))), (0, .ref o), (1, .int (nI w))]) hx hb dX11_layRound_5 rfl hl (by decide) rfl (fun ls hl => ?_)
  refine lv_iload_n hx hb dX11_layRound_6 rfl (lv_at hl 0 rfl) ?_
  refine lv_istore_n (lv' := [(3, .int (nI (sN - 1))), (2, .int (nI (sN - 1))), (0, .ref o), (1, .int (nI w))]) hx hb dX11_layRound_7 rfl hl (by decide) rfl (fun ls hl => ?_)
  refine xb_wh (fun (n9 : Nat) H locs ls => ∃ st : Nat, ∃ g3 : Nat → Int32, st = n9 ∧ va_P D vwCl [(o, .inr (11, [.ref m_tape, .ref m_text, .int m_taped, .int m_size, .int m_faultKind, .int m_faultPlace, .int m_at, .int m_end, .int m_token, .int m_number, .long m_name, .ref m_words, .ref m_errands, .ref m_alikes, .ref m_law, .ref m_worth, .ref m_times, .ref m_eWord, .ref m_eAfter, .ref m_sound, .ref m_isLaw, .ref m_wName, .int (nI bk), .int m_rb, .ref m_follow, .ref m_lengths, .ref m_said, .int m_latest, .int m_talked, .int m_sum, .int m_doneSet, .int m_w, .ref m_more, .ref m_laidRow, .int (nI ld), .ref m_piece, .ref m_far, .ref m_steps, .ref m_ends, .ref m_hPlace, .ref m_hWhat, .ref m_hValue, .ref m_hTold, .ref m_hUntold, .int m_sounds, .int m_time, .ref m_ways, .ref m_goesOn, .ref m_boxMany, .ref m_boxLatest, .ref m_boxSum, .ref m_boxW, .ref m_boxDone, .ref m_boxSaid])), (m_follow, .inl (cI, 24, .inl f_follow)), (m_more, .inl (cI, 229376, .inl g3)), (m_laidRow, .inl (cI, 200, .inl f_laidRow))] H ∧ va_D A [(o, .inr (11, [.ref m_tape, .ref m_text, .int m_taped, .int m_size, .int m_faultKind, .int m_faultPlace, .int m_at, .int m_end, .int m_token, .int m_number, .long m_name, .ref m_words, .ref m_errands, .ref m_alikes, .ref m_law, .ref m_worth, .ref m_times, .ref m_eWord, .ref m_eAfter, .ref m_sound, .ref m_isLaw, .ref m_wName, .int (nI bk), .int m_rb, .ref m_follow, .ref m_lengths, .ref m_said, .int m_latest, .int m_talked, .int m_sum, .int m_doneSet, .int m_w, .ref m_more, .ref m_laidRow, .int (nI ld), .ref m_piece, .ref m_far, .ref m_steps, .ref m_ends, .ref m_hPlace, .ref m_hWhat, .ref m_hValue, .ref m_hTold, .ref m_hUntold, .int m_sounds, .int m_time, .ref m_ways, .ref m_goesOn, .ref m_boxMany, .ref m_boxLatest, .ref m_boxSum, .ref m_boxW, .ref m_boxDone, .ref m_boxSaid])), (m_follow, .inl (cI, 24, .inl f_follow)), (m_more, .inl (cI, 229376, .inl g3)), (m_laidRow, .inl (cI, 200, .inl f_laidRow))] ∧ va_S A s.heap H locs ∧ lv_has ls 7 [(3, .int (nI st)), (2, .int (nI (sN - 1))), (0, .ref o), (1, .int (nI w))] ∧ (st < sN) ∧ (∀ s k, st < s → s < sN → k < w → R2 f_follow w sN g3 s k)) ⟨(sN - 1), f_more, rfl, hP, hD, hS, lv_sub hl [0, 1, 2, 3] rfl, (by omega), (fun s k h1 h2 => absurd h1 (by omega))⟩ (fun n9 H locs ls hI kk_8 => ?_)
  obtain ⟨st, g3, hn_8, hP, hD, hS, hl, hF_h_1, hF_h_2⟩ := hI
  refine lv_iload_n hx hb dX11_layRound_8 rfl (lv_at hl 0 rfl) ?_
  refine lv_if_le (tgt := 138) hx hb dX11_layRound_9 (by decide) (fun c_3 => ?_) (fun c_3 => ?_)
  · have dc_3 : st ≤ 0 := (nI_leI (a := st) (b := 0) (by omega) (by omega)).mp c_3
    refine lv_aload_n hx hb dX11_layRound_138 rfl (lv_at hl 2 rfl) ?_
    refine va_get (D := D) (ci := 11) (v := .ref m_more) (C := RX11) (T := TX11) (N := 54) hx hb hts (by decide +kernel) hown hK hP 0 rfl rfl 32 (by decide) (hts (.fieldLink RX11 69 "LastLetterModel" "more" "[I") (by decide +kernel)) (fun _ h9 => h9) rfl dX11_layRound_139 ?_
    refine lv_bipush (v := 14) hx hb dX11_layRound_142 (by decide) ?_
    refine va_iald hx hb hK hP 2 1 rfl rfl (by unfold vp_in; decide) dX11_layRound_144 ?_
    refine xb_top (y := g3 14) rfl ?_
    refine lv_if_ne (tgt := 150) hx hb dX11_layRound_145 (by decide) (fun c_4 => ?_) (fun c_4 => ?_)
    · have htab : ∀ s k, 0 < s → s < sN → k < w → R2 f_follow w sN g3 s k := fun s k h1 h2 h3 => hF_h_2 s k (by omega) h2 h3
      refine lv_iconst (v := 1) hx hb dX11_layRound_150 (by decide) ?_
      refine lv_istore_n (lv' := [(3, .int 1), (2, .int (nI (sN - 1))), (0, .ref o), (1, .int (nI w))]) hx hb dX11_layRound_151 rfl hl (by decide) rfl (fun ls hl => ?_)
      refine lv_iconst (v := 0) hx hb dX11_layRound_152 (by decide) ?_
      refine lv_istore (lv' := [(4, .int 0), (3, .int 1), (2, .int (nI (sN - 1))), (0, .ref o), (1, .int (nI w))]) hx hb dX11_layRound_153 hl (by decide) rfl (fun ls hl => ?_)
      refine lv_aload_n hx hb dX11_layRound_155 rfl (lv_at hl 3 rfl) ?_
      refine lv_iconst (v := 0) hx hb dX11_layRound_156 (by decide) ?_
      refine xCv (wr := [(m_follow, .inl (cI, 24, .inl f_follow)), (m_more, .inl (cI, 229376, .inl g3))]) (win := [(o, .inr (11, [.ref m_tape, .ref m_text, .int m_taped, .int m_size, .int m_faultKind, .int m_faultPlace, .int m_at, .int m_end, .int m_token, .int m_number, .long m_name, .ref m_words, .ref m_errands, .ref m_alikes, .ref m_law, .ref m_worth, .ref m_times, .ref m_eWord, .ref m_eAfter, .ref m_sound, .ref m_isLaw, .ref m_wName, .int (nI bk), .int m_rb, .ref m_follow, .ref m_lengths, .ref m_said, .int m_latest, .int m_talked, .int m_sum, .int m_doneSet, .int m_w, .ref m_more, .ref m_laidRow, .int (nI ld), .ref m_piece, .ref m_far, .ref m_steps, .ref m_ends, .ref m_hPlace, .ref m_hWhat, .ref m_hValue, .ref m_hTold, .ref m_hUntold, .int m_sounds, .int m_time, .ref m_ways, .ref m_goesOn, .ref m_boxMany, .ref m_boxLatest, .ref m_boxSum, .ref m_boxW, .ref m_boxDone, .ref m_boxSaid])), (m_laidRow, .inl (cI, 200, .inl f_laidRow))]) hP hD hS hA [0, 3] [1, 2] rfl rfl (by decide) (by decide) (va_runV (As := [.int 0]) (rest := []) ⟨hx, hb, hml, hown, hts⟩ (c_X11_lay l D cB cI cJ cS cZ cO H.size o 0 m_tape m_text m_taped m_size m_faultKind m_faultPlace m_at m_end m_token m_number m_name m_words m_errands m_alikes m_law m_worth m_times m_eWord m_eAfter m_sound m_isLaw m_wName (nI bk) m_rb m_follow m_lengths m_said m_latest m_talked m_sum m_doneSet m_w m_more m_laidRow ld m_piece m_far m_steps m_ends m_hPlace m_hWhat m_hValue m_hTold m_hUntold m_sounds m_time m_ways m_goesOn m_boxMany m_boxLatest m_boxSum m_boxW m_boxDone m_boxSaid f_laidRow (by first | assumption | omega | decide)) (cwV 1 hts gX11_layRound_X11_lay rfl rfl rfl (by decide +kernel) ⟨Nat.le_of_ble_eq_true rfl, Nat.le_of_ble_eq_true rfl⟩) (xPreV (win := [(o, .inr (11, [.ref m_tape, .ref m_text, .int m_taped, .int m_size, .int m_faultKind, .int m_faultPlace, .int m_at, .int m_end, .int m_token, .int m_number, .long m_name, .ref m_words, .ref m_errands, .ref m_alikes, .ref m_law, .ref m_worth, .ref m_times, .ref m_eWord, .ref m_eAfter, .ref m_sound, .ref m_isLaw, .ref m_wName, .int (nI bk), .int m_rb, .ref m_follow, .ref m_lengths, .ref m_said, .int m_latest, .int m_talked, .int m_sum, .int m_doneSet, .int m_w, .ref m_more, .ref m_laidRow, .int (nI ld), .ref m_piece, .ref m_far, .ref m_steps, .ref m_ends, .ref m_hPlace, .ref m_hWhat, .ref m_hValue, .ref m_hTold, .ref m_hUntold, .int m_sounds, .int m_time, .ref m_ways, .ref m_goesOn, .ref m_boxMany, .ref m_boxLatest, .ref m_boxSum, .ref m_boxW, .ref m_boxDone, .ref m_boxSaid])), (m_laidRow, .inl (cI, 200, .inl f_laidRow))]) hN hK hP hD [0, 3] (by decide) rfl 0 11 rfl rfl rfl) rfl rfl hl.1 rfl (lv_room (Nat.le_of_ble_eq_true rfl)) dX11_layRound_157 ⟨Nat.le_of_ble_eq_true rfl, Nat.le_of_ble_eq_true rfl⟩) (fun w0 H locs hw hP hD hS => ?_)
      obtain ⟨ld2_5, g_laidRow_6, rfl, hf_7⟩ := hw
      have hP : va_P D vwCl [(m_follow, .inl (cI, 24, .inl f_follow)), (m_more, .inl (cI, 229376, .inl g3)), (o, .inr (11, [.ref m_tape, .ref m_text, .int m_taped, .int m_size, .int m_faultKind, .int m_faultPlace, .int m_at, .int m_end, .int m_token, .int m_number, .long m_name, .ref m_words, .ref m_errands, .ref m_alikes, .ref m_law, .ref m_worth, .ref m_times, .ref m_eWord, .ref m_eAfter, .ref m_sound, .ref m_isLaw, .ref m_wName, .int (nI bk), .int m_rb, .ref m_follow, .ref m_lengths, .ref m_said, .int m_latest, .int m_talked, .int m_sum, .int m_doneSet, .int m_w, .ref m_more, .ref m_laidRow, .int (nI ld2_5), .ref m_piece, .ref m_far, .ref m_steps, .ref m_ends, .ref m_hPlace, .ref m_hWhat, .ref m_hValue, .ref m_hTold, .ref m_hUntold, .int m_sounds, .int m_time, .ref m_ways, .ref m_goesOn, .ref m_boxMany, .ref m_boxLatest, .ref m_boxSum, .ref m_boxW, .ref m_boxDone, .ref m_boxSaid])), (m_laidRow, .inl (cI, 200, .inl g_laidRow_6))] H := hP
      have hD : va_D A [(m_follow, .inl (cI, 24, .inl f_follow)), (m_more, .inl (cI, 229376, .inl g3)), (o, .inr (11, [.ref m_tape, .ref m_text, .int m_taped, .int m_size, .int m_faultKind, .int m_faultPlace, .int m_at, .int m_end, .int m_token, .int m_number, .long m_name, .ref m_words, .ref m_errands, .ref m_alikes, .ref m_law, .ref m_worth, .ref m_times, .ref m_eWord, .ref m_eAfter, .ref m_sound, .ref m_isLaw, .ref m_wName, .int (nI bk), .int m_rb, .ref m_follow, .ref m_lengths, .ref m_said, .int m_latest, .int m_talked, .int m_sum, .int m_doneSet, .int m_w, .ref m_more, .ref m_laidRow, .int (nI ld2_5), .ref m_piece, .ref m_far, .ref m_steps, .ref m_ends, .ref m_hPlace, .ref m_hWhat, .ref m_hValue, .ref m_hTold, .ref m_hUntold, .int m_sounds, .int m_time, .ref m_ways, .ref m_goesOn, .ref m_boxMany, .ref m_boxLatest, .ref m_boxSum, .ref m_boxW, .ref m_boxDone, .ref m_boxSaid])), (m_laidRow, .inl (cI, 200, .inl g_laidRow_6))] := hD
      refine xb_wh (fun (n9 : Nat) H locs ls => ∃ st : Nat, ∃ la : Nat, ∃ ld3 : Nat, ∃ gr3 : Nat → Int32, (sN - st) = n9 ∧ va_P D vwCl [(m_follow, .inl (cI, 24, .inl f_follow)), (m_more, .inl (cI, 229376, .inl g3)), (o, .inr (11, [.ref m_tape, .ref m_text, .int m_taped, .int m_size, .int m_faultKind, .int m_faultPlace, .int m_at, .int m_end, .int m_token, .int m_number, .long m_name, .ref m_words, .ref m_errands, .ref m_alikes, .ref m_law, .ref m_worth, .ref m_times, .ref m_eWord, .ref m_eAfter, .ref m_sound, .ref m_isLaw, .ref m_wName, .int (nI bk), .int m_rb, .ref m_follow, .ref m_lengths, .ref m_said, .int m_latest, .int m_talked, .int m_sum, .int m_doneSet, .int m_w, .ref m_more, .ref m_laidRow, .int (nI ld3), .ref m_piece, .ref m_far, .ref m_steps, .ref m_ends, .ref m_hPlace, .ref m_hWhat, .ref m_hValue, .ref m_hTold, .ref m_hUntold, .int m_sounds, .int m_time, .ref m_ways, .ref m_goesOn, .ref m_boxMany, .ref m_boxLatest, .ref m_boxSum, .ref m_boxW, .ref m_boxDone, .ref m_boxSaid])), (m_laidRow, .inl (cI, 200, .inl gr3))] H ∧ va_D A [(m_follow, .inl (cI, 24, .inl f_follow)), (m_more, .inl (cI, 229376, .inl g3)), (o, .inr (11, [.ref m_tape, .ref m_text, .int m_taped, .int m_size, .int m_faultKind, .int m_faultPlace, .int m_at, .int m_end, .int m_token, .int m_number, .long m_name, .ref m_words, .ref m_errands, .ref m_alikes, .ref m_law, .ref m_worth, .ref m_times, .ref m_eWord, .ref m_eAfter, .ref m_sound, .ref m_isLaw, .ref m_wName, .int (nI bk), .int m_rb, .ref m_follow, .ref m_lengths, .ref m_said, .int m_latest, .int m_talked, .int m_sum, .int m_doneSet, .int m_w, .ref m_more, .ref m_laidRow, .int (nI ld3), .ref m_piece, .ref m_far, .ref m_steps, .ref m_ends, .ref m_hPlace, .ref m_hWhat, .ref m_hValue, .ref m_hTold, .ref m_hUntold, .int m_sounds, .int m_time, .ref m_ways, .ref m_goesOn, .ref m_boxMany, .ref m_boxLatest, .ref m_boxSum, .ref m_boxW, .ref m_boxDone, .ref m_boxSaid])), (m_laidRow, .inl (cI, 200, .inl gr3))] ∧ va_S A s.heap H locs ∧ lv_has ls 7 [(4, .int (nI la)), (3, .int (nI st)), (2, .int (nI (sN - 1))), (0, .ref o), (1, .int (nI w))] ∧ (st < sN) ∧ (0 < st) ∧ (la < w) ∧ (ld3 = bc w st) ∧ (¬ g3 (14 * st + la) = 0)) ⟨1, 0, ld2_5, g_laidRow_6, rfl, hP, hD, hS, lv_sub hl [0, 1, 2, 3, 4] rfl, (two_le hs hw1), (by decide), (by omega), (by have h := bc_1 (n := w) (o := 0) (by omega); rw [Nat.pow_zero, Nat.mul_one] at h; omega), c_4⟩ (fun n9 H locs ls hI kk_160 => ?_)
      obtain ⟨st, la, ld3, gr3, hn_160, hP, hD, hS, hl, hF_h_8, hF_h_9, hF_h_10, hF_h_11, hF_h_12⟩ := hI
      have hbc := bc_le w st
      refine lv_iload_n hx hb dX11_layRound_160 rfl (lv_at hl 1 rfl) ?_
      refine lv_iload_n hx hb dX11_layRound_161 rfl (lv_at hl 2 rfl) ?_
      refine lv_icmp_eq (tgt := 235) hx hb dX11_layRound_162 (by decide) (fun c_13 => ?_) (fun c_13 => ?_)
      · have dc_13 : st = sN - 1 := (nI_eq (a := st) (b := sN - 1) (by omega) (by omega)).mp c_13
        refine lv_iconst (v := 1) hx hb dX11_layRound_235 (by decide) ?_
        have hP9 := hP.sub (ws' := [(o, .inr (11, [.ref m_tape, .ref m_text, .int m_taped, .int m_size, .int m_faultKind, .int m_faultPlace, .int m_at, .int m_end, .int m_token, .int m_number, .long m_name, .ref m_words, .ref m_errands, .ref m_alikes, .ref m_law, .ref m_worth, .ref m_times, .ref m_eWord, .ref m_eAfter, .ref m_sound, .ref m_isLaw, .ref m_wName, .int (nI bk), .int m_rb, .ref m_follow, .ref m_lengths, .ref m_said, .int m_latest, .int m_talked, .int m_sum, .int m_doneSet, .int m_w, .ref m_more, .ref m_laidRow, .int (nI ld3), .ref m_piece, .ref m_far, .ref m_steps, .ref m_ends, .ref m_hPlace, .ref m_hWhat, .ref m_hValue, .ref m_hTold, .ref m_hUntold, .int m_sounds, .int m_time, .ref m_ways, .ref m_goesOn, .ref m_boxMany, .ref m_boxLatest, .ref m_boxSum, .ref m_boxW, .ref m_boxDone, .ref m_boxSaid])), (m_follow, .inl (cI, 24, .inl f_follow)), (m_more, .inl (cI, 229376, .inl g3)), (m_laidRow, .inl (cI, 200, .inl gr3))]) [2, 0, 1, 3] rfl
        have hD9 := hD.sub (ws' := [(o, .inr (11, [.ref m_tape, .ref m_text, .int m_taped, .int m_size, .int m_faultKind, .int m_faultPlace, .int m_at, .int m_end, .int m_token, .int m_number, .long m_name, .ref m_words, .ref m_errands, .ref m_alikes, .ref m_law, .ref m_worth, .ref m_times, .ref m_eWord, .ref m_eAfter, .ref m_sound, .ref m_isLaw, .ref m_wName, .int (nI bk), .int m_rb, .ref m_follow, .ref m_lengths, .ref m_said, .int m_latest, .int m_talked, .int m_sum, .int m_doneSet, .int m_w, .ref m_more, .ref m_laidRow, .int (nI ld3), .ref m_piece, .ref m_far, .ref m_steps, .ref m_ends, .ref m_hPlace, .ref m_hWhat, .ref m_hValue, .ref m_hTold, .ref m_hUntold, .int m_sounds, .int m_time, .ref m_ways, .ref m_goesOn, .ref m_boxMany, .ref m_boxLatest, .ref m_boxSum, .ref m_boxW, .ref m_boxDone, .ref m_boxSaid])), (m_follow, .inl (cI, 24, .inl f_follow)), (m_more, .inl (cI, 229376, .inl g3)), (m_laidRow, .inl (cI, 200, .inl gr3))]) [2, 0, 1, 3] (by decide) rfl
        refine W.widen (k := 0) (n := 0) (Nat.le_of_ble_eq_true rfl) (Nat.le_of_ble_eq_true rfl) ?_
        exact W.zret (v := 1) hx hb hr (by decide) (fun tz htz hWz => ⟨⟨1, [(o, .inr (11, [.ref m_tape, .ref m_text, .int m_taped, .int m_size, .int m_faultKind, .int m_faultPlace, .int m_at, .int m_end, .int m_token, .int m_number, .long m_name, .ref m_words, .ref m_errands, .ref m_alikes, .ref m_law, .ref m_worth, .ref m_times, .ref m_eWord, .ref m_eAfter, .ref m_sound, .ref m_isLaw, .ref m_wName, .int (nI bk), .int m_rb, .ref m_follow, .ref m_lengths, .ref m_said, .int m_latest, .int m_talked, .int m_sum, .int m_doneSet, .int m_w, .ref m_more, .ref m_laidRow, .int (nI ld3), .ref m_piece, .ref m_far, .ref m_steps, .ref m_ends, .ref m_hPlace, .ref m_hWhat, .ref m_hValue, .ref m_hTold, .ref m_hUntold, .int m_sounds, .int m_time, .ref m_ways, .ref m_goesOn, .ref m_boxMany, .ref m_boxLatest, .ref m_boxSum, .ref m_boxW, .ref m_boxDone, .ref m_boxSaid])), (m_follow, .inl (cI, 24, .inl f_follow)), (m_more, .inl (cI, 229376, .inl g3)), (m_laidRow, .inl (cI, 200, .inl gr3))], rfl, ⟨ld3, g3, gr3, rfl, (Or.inr rfl), (by omega)⟩, by rw [htz]; exact hP9, va_K.moved hWz.alike hK, hD9⟩, hS.F htz⟩) hS.2.2 dX11_layRound_236
      · have dc_13 : ¬ st = (sN - 1) := fun h => c_13 ((nI_eq (a := st) (b := sN - 1) (by omega) (by omega)).mpr h)
        obtain ⟨o9, ho9, hb9, ha9, he9⟩ := Or.resolve_left (Or.resolve_left (htab st la (by omega) (by omega) (by omega)) hF_h_12) (by omega)
        refine lv_iconst (v := 0) hx hb dX11_layRound_165 (by decide) ?_
        refine lv_istore (lv' := [(5, .int 0), (4, .int (nI la)), (3, .int (nI st)), (2, .int (nI (sN - 1))), (0, .ref o), (1, .int (nI w))]) hx hb dX11_layRound_166 hl (by decide) rfl (fun ls hl => ?_)
        refine xb_wh (fun (n9 : Nat) H locs ls => ∃ nx : Nat, (o9 - nx) = n9 ∧ va_P D vwCl [(m_follow, .inl (cI, 24, .inl f_follow)), (m_more, .inl (cI, 229376, .inl g3)), (o, .inr (11, [.ref m_tape, .ref m_text, .int m_taped, .int m_size, .int m_faultKind, .int m_faultPlace, .int m_at, .int m_end, .int m_token, .int m_number, .long m_name, .ref m_words, .ref m_errands, .ref m_alikes, .ref m_law, .ref m_worth, .ref m_times, .ref m_eWord, .ref m_eAfter, .ref m_sound, .ref m_isLaw, .ref m_wName, .int (nI bk), .int m_rb, .ref m_follow, .ref m_lengths, .ref m_said, .int m_latest, .int m_talked, .int m_sum, .int m_doneSet, .int m_w, .ref m_more, .ref m_laidRow, .int (nI ld3), .ref m_piece, .ref m_far, .ref m_steps, .ref m_ends, .ref m_hPlace, .ref m_hWhat, .ref m_hValue, .ref m_hTold, .ref m_hUntold, .int m_sounds, .int m_time, .ref m_ways, .ref m_goesOn, .ref m_boxMany, .ref m_boxLatest, .ref m_boxSum, .ref m_boxW, .ref m_boxDone, .ref m_boxSaid])), (m_laidRow, .inl (cI, 200, .inl gr3))] H ∧ va_D A [(m_follow, .inl (cI, 24, .inl f_follow)), (m_more, .inl (cI, 229376, .inl g3)), (o, .inr (11, [.ref m_tape, .ref m_text, .int m_taped, .int m_size, .int m_faultKind, .int m_faultPlace, .int m_at, .int m_end, .int m_token, .int m_number, .long m_name, .ref m_words, .ref m_errands, .ref m_alikes, .ref m_law, .ref m_worth, .ref m_times, .ref m_eWord, .ref m_eAfter, .ref m_sound, .ref m_isLaw, .ref m_wName, .int (nI bk), .int m_rb, .ref m_follow, .ref m_lengths, .ref m_said, .int m_latest, .int m_talked, .int m_sum, .int m_doneSet, .int m_w, .ref m_more, .ref m_laidRow, .int (nI ld3), .ref m_piece, .ref m_far, .ref m_steps, .ref m_ends, .ref m_hPlace, .ref m_hWhat, .ref m_hValue, .ref m_hTold, .ref m_hUntold, .int m_sounds, .int m_time, .ref m_ways, .ref m_goesOn, .ref m_boxMany, .ref m_boxLatest, .ref m_boxSum, .ref m_boxW, .ref m_boxDone, .ref m_boxSaid])), (m_laidRow, .inl (cI, 200, .inl gr3))] ∧ va_S A s.heap H locs ∧ lv_has ls 7 [(5, .int (nI nx)), (4, .int (nI la)), (3, .int (nI st)), (2, .int (nI (sN - 1))), (0, .ref o), (1, .int (nI w))] ∧ (nx ≤ o9)) ⟨0, rfl, hP, hD, hS, lv_sub hl [0, 1, 2, 3, 4, 5] rfl, (Nat.zero_le _)⟩ (fun n9 H locs ls hI kk_168 => ?_)
        obtain ⟨nx, hn_168, hP, hD, hS, hl, hF_h_14⟩ := hI
        refine lv_iload_n hx hb dX11_layRound_168 rfl (lv_at hl 2 rfl) ?_
        refine lv_iload hx hb dX11_layRound_169 (lv_at hl 0 rfl) ?_
        refine lv_ishr hx hb dX11_layRound_171 ?_
        refine xb_top (y := nI (st / 2 ^ nx)) (nb_shr (a := st) (i := nx) (by omega) (by omega)) ?_
        refine lv_iconst (v := 1) hx hb dX11_layRound_172 (by decide) ?_
        refine lv_iand hx hb dX11_layRound_173 ?_
        refine xb_top (y := nI (st / 2 ^ nx % 2)) ((nb_and _ 1).trans (by rw [Nat.and_one_is_mod])) ?_
        refine lv_iconst (v := 1) hx hb dX11_layRound_174 (by decide) ?_
        refine lv_icmp_eq (tgt := 209) hx hb dX11_layRound_175 (by decide) (fun c_15 => ?_) (fun c_15 => ?_)
        · have dc_15 : st / 2 ^ nx % 2 = 1 := (nI_eq (a := st / 2 ^ nx % 2) (b := 1) (by omega) (by omega)).mp c_15
          refine lv_iinc (v := nI (nx + 1)) (lv' := [(5, .int (nI (nx + 1))), (4, .int (nI la)), (3, .int (nI st)), (2, .int (nI (sN - 1))), (0, .ref o), (1, .int (nI w))]) hx hb dX11_layRound_209 hl (k := 0) rfl (nI_1 nx) (by decide) rfl (fun ls hl => ?_)
          refine lv_goto (tgt := 168) hx hb dX11_layRound_212 (by decide) ?_
          have hlt9 : nx < o9 := Nat.lt_of_le_of_ne hF_h_14 (fun h => by subst h; exact absurd hb9 (by omega))
          exact kk_168 _ _ _ _ (by rw [← hn_168]; omega) ⟨(nx + 1), rfl, hP, hD, hS, lv_sub hl [0, 1, 2, 3, 4, 5] rfl, (by omega)⟩
        · have dc_15 : ¬ (st / 2 ^ nx % 2) = 1 := fun h => c_15 ((nI_eq (a := st / 2 ^ nx % 2) (b := 1) (by omega) (by omega)).mpr h)
          refine lv_aload_n hx hb dX11_layRound_178 rfl (lv_at hl 4 rfl) ?_
          refine lv_iload hx hb dX11_layRound_179 (lv_at hl 1 rfl) ?_
          refine lv_iload hx hb dX11_layRound_181 (lv_at hl 0 rfl) ?_
          refine xCi (wr := [(m_more, .inl (cI, 229376, .inl g3)), (m_laidRow, .inl (cI, 200, .inl gr3))]) (win := [(o, .inr (11, [.ref m_tape, .ref m_text, .int m_taped, .int m_size, .int m_faultKind, .int m_faultPlace, .int m_at, .int m_end, .int m_token, .int m_number, .long m_name, .ref m_words, .ref m_errands, .ref m_alikes, .ref m_law, .ref m_worth, .ref m_times, .ref m_eWord, .ref m_eAfter, .ref m_sound, .ref m_isLaw, .ref m_wName, .int (nI bk), .int m_rb, .ref m_follow, .ref m_lengths, .ref m_said, .int m_latest, .int m_talked, .int m_sum, .int m_doneSet, .int m_w, .ref m_more, .ref m_laidRow, .int (nI ld3), .ref m_piece, .ref m_far, .ref m_steps, .ref m_ends, .ref m_hPlace, .ref m_hWhat, .ref m_hValue, .ref m_hTold, .ref m_hUntold, .int m_sounds, .int m_time, .ref m_ways, .ref m_goesOn, .ref m_boxMany, .ref m_boxLatest, .ref m_boxSum, .ref m_boxW, .ref m_boxDone, .ref m_boxSaid])), (m_follow, .inl (cI, 24, .inl f_follow))]) hP hD hS hA [2, 0] [1, 3] rfl rfl (by decide) (by decide) (va_runV (As := [.int (nI la), .int (nI nx)]) (rest := []) ⟨hx, hb, hml, hown, hts⟩ (c_X11_isAfter l D cB cI cJ cS cZ cO H.size o la nx m_tape m_text m_taped m_size m_faultKind m_faultPlace m_at m_end m_token m_number m_name m_words m_errands m_alikes m_law m_worth m_times m_eWord m_eAfter m_sound m_isLaw m_wName (nI bk) m_rb m_follow m_lengths m_said m_latest m_talked m_sum m_doneSet m_w m_more m_laidRow (nI ld3) m_piece m_far m_steps m_ends m_hPlace m_hWhat m_hValue m_hTold m_hUntold m_sounds m_time m_ways m_goesOn m_boxMany m_boxLatest m_boxSum m_boxW m_boxDone m_boxSaid f_follow (by first | assumption | omega | decide)) (cwV 2 hts gX11_layRound_X11_isAfter rfl rfl rfl (by decide +kernel) ⟨Nat.le_of_ble_eq_true rfl, Nat.le_of_ble_eq_true rfl⟩) (xPreV (win := [(o, .inr (11, [.ref m_tape, .ref m_text, .int m_taped, .int m_size, .int m_faultKind, .int m_faultPlace, .int m_at, .int m_end, .int m_token, .int m_number, .long m_name, .ref m_words, .ref m_errands, .ref m_alikes, .ref m_law, .ref m_worth, .ref m_times, .ref m_eWord, .ref m_eAfter, .ref m_sound, .ref m_isLaw, .ref m_wName, .int (nI bk), .int m_rb, .ref m_follow, .ref m_lengths, .ref m_said, .int m_latest, .int m_talked, .int m_sum, .int m_doneSet, .int m_w, .ref m_more, .ref m_laidRow, .int (nI ld3), .ref m_piece, .ref m_far, .ref m_steps, .ref m_ends, .ref m_hPlace, .ref m_hWhat, .ref m_hValue, .ref m_hTold, .ref m_hUntold, .int m_sounds, .int m_time, .ref m_ways, .ref m_goesOn, .ref m_boxMany, .ref m_boxLatest, .ref m_boxSum, .ref m_boxW, .ref m_boxDone, .ref m_boxSaid])), (m_follow, .inl (cI, 24, .inl f_follow))]) hN hK hP hD [2, 0] (by decide) rfl 2 11 rfl rfl rfl) rfl rfl hl.1 rfl (lv_room (Nat.le_of_ble_eq_true rfl)) dX11_layRound_183 ⟨Nat.le_of_ble_eq_true rfl, Nat.le_of_ble_eq_true rfl⟩) (fun r0 w0 H locs hw hP hD hS => ?_)
          obtain ⟨rfl, rfl⟩ := hw
          have hP : va_P D vwCl [(m_more, .inl (cI, 229376, .inl g3)), (m_laidRow, .inl (cI, 200, .inl gr3)), (o, .inr (11, [.ref m_tape, .ref m_text, .int m_taped, .int m_size, .int m_faultKind, .int m_faultPlace, .int m_at, .int m_end, .int m_token, .int m_number, .long m_name, .ref m_words, .ref m_errands, .ref m_alikes, .ref m_law, .ref m_worth, .ref m_times, .ref m_eWord, .ref m_eAfter, .ref m_sound, .ref m_isLaw, .ref m_wName, .int (nI bk), .int m_rb, .ref m_follow, .ref m_lengths, .ref m_said, .int m_latest, .int m_talked, .int m_sum, .int m_doneSet, .int m_w, .ref m_more, .ref m_laidRow, .int (nI ld3), .ref m_piece, .ref m_far, .ref m_steps, .ref m_ends, .ref m_hPlace, .ref m_hWhat, .ref m_hValue, .ref m_hTold, .ref m_hUntold, .int m_sounds, .int m_time, .ref m_ways, .ref m_goesOn, .ref m_boxMany, .ref m_boxLatest, .ref m_boxSum, .ref m_boxW, .ref m_boxDone, .ref m_boxSaid])), (m_follow, .inl (cI, 24, .inl f_follow))] H := hP
          have hD : va_D A [(m_more, .inl (cI, 229376, .inl g3)), (m_laidRow, .inl (cI, 200, .inl gr3)), (o, .inr (11, [.ref m_tape, .ref m_text, .int m_taped, .int m_size, .int m_faultKind, .int m_faultPlace, .int m_at, .int m_end, .int m_token, .int m_number, .long m_name, .ref m_words, .ref m_errands, .ref m_alikes, .ref m_law, .ref m_worth, .ref m_times, .ref m_eWord, .ref m_eAfter, .ref m_sound, .ref m_isLaw, .ref m_wName, .int (nI bk), .int m_rb, .ref m_follow, .ref m_lengths, .ref m_said, .int m_latest, .int m_talked, .int m_sum, .int m_doneSet, .int m_w, .ref m_more, .ref m_laidRow, .int (nI ld3), .ref m_piece, .ref m_far, .ref m_steps, .ref m_ends, .ref m_hPlace, .ref m_hWhat, .ref m_hValue, .ref m_hTold, .ref m_hUntold, .int m_sounds, .int m_time, .ref m_ways, .ref m_goesOn, .ref m_boxMany, .ref m_boxLatest, .ref m_boxSum, .ref m_boxW, .ref m_boxDone, .ref m_boxSaid])), (m_follow, .inl (cI, 24, .inl f_follow))] := hD
          refine lv_if_eq (tgt := 209) hx hb dX11_layRound_186 (by decide) (fun c_16 => ?_) (fun c_16 => ?_)
          · refine lv_iinc (v := nI (nx + 1)) (lv' := [(5, .int (nI (nx + 1))), (4, .int (nI la)), (3, .int (nI st)), (2, .int (nI (sN - 1))), (0, .ref o), (1, .int (nI w))]) hx hb dX11_layRound_209 hl (k := 0) rfl (nI_1 nx) (by decide) rfl (fun ls hl => ?_)
            refine lv_goto (tgt := 168) hx hb dX11_layRound_212 (by decide) ?_
            have hlt9 : nx < o9 := Nat.lt_of_le_of_ne hF_h_14 (fun h => by subst h; exact ha9 c_16)
            exact kk_168 _ _ _ _ (by rw [← hn_168]; omega) ⟨(nx + 1), rfl, hP.sub [3, 0, 2, 1] rfl, hD.sub [3, 0, 2, 1] (by decide) rfl, hS, lv_sub hl [0, 1, 2, 3, 4, 5] rfl, (by omega)⟩
          · refine lv_aload_n hx hb dX11_layRound_189 rfl (lv_at hl 4 rfl) ?_
            refine va_get (D := D) (ci := 11) (v := .ref m_more) (C := RX11) (T := TX11) (N := 54) hx hb hts (by decide +kernel) hown hK hP 2 rfl rfl 32 (by decide) (hts (.fieldLink RX11 69 "LastLetterModel" "more" "[I") (by decide +kernel)) (fun _ h9 => h9) rfl dX11_layRound_190 ?_
            refine lv_bipush (v := 14) hx hb dX11_layRound_193 (by decide) ?_
            refine lv_iload_n hx hb dX11_layRound_195 rfl (lv_at hl 2 rfl) ?_
            refine lv_iconst (v := 1) hx hb dX11_layRound_196 (by decide) ?_
            refine lv_iload hx hb dX11_layRound_197 (lv_at hl 0 rfl) ?_
            refine lv_ishl hx hb dX11_layRound_199 ?_
            refine xb_top (y := nI (1 * 2 ^ nx)) (nb_shl (a := 1) (i := nx) (by omega)) ?_
            have hor_16 : st ||| 1 * 2 ^ nx < sN := or_lt hs (by omega) (by omega)
            refine lv_ior hx hb dX11_layRound_200 ?_
            refine xb_top (y := nI (st ||| 1 * 2 ^ nx)) (nb_or _ _) ?_
            refine lv_imul hx hb dX11_layRound_201 ?_
            refine xb_top (y := nI (14 * (st ||| 1 * 2 ^ nx))) (pk_mul 14 (st ||| 1 * 2 ^ nx)) ?_
            refine lv_iload hx hb dX11_layRound_202 (lv_at hl 0 rfl) ?_
            refine lv_iadd hx hb dX11_layRound_204 ?_
            refine xb_top (y := nI ((14 * (st ||| 1 * 2 ^ nx)) + nx)) (nI_add (14 * (st ||| 1 * 2 ^ nx)) nx) ?_
            refine va_iald hx hb hK hP 0 1 rfl rfl (vp_in_nI (by omega) (by omega)) dX11_layRound_205 ?_
            refine xb_top (y := g3 ((14 * (st ||| 1 * 2 ^ nx)) + nx)) (by rw [nI_clamp (by omega)]) ?_
            refine lv_if_ne (tgt := 215) hx hb dX11_layRound_206 (by decide) (fun c_17 => ?_) (fun c_17 => ?_)
            · refine lv_iload_n hx hb dX11_layRound_215 rfl (lv_at hl 2 rfl) ?_
              refine lv_iconst (v := 1) hx hb dX11_layRound_216 (by decide) ?_
              refine lv_iload hx hb dX11_layRound_217 (lv_at hl 0 rfl) ?_
              refine lv_ishl hx hb dX11_layRound_219 ?_
              refine xb_top (y := nI (1 * 2 ^ nx)) (nb_shl (a := 1) (i := nx) (by omega)) ?_
              have hor_17 : st ||| 1 * 2 ^ nx < sN := or_lt hs (by omega) (by omega)
              refine lv_ior hx hb dX11_layRound_220 ?_
              refine xb_top (y := nI (st ||| 1 * 2 ^ nx)) (nb_or _ _) ?_
              refine lv_istore_n (lv' := [(3, .int (nI (st ||| 1 * 2 ^ nx))), (5, .int (nI nx)), (4, .int (nI la)), (2, .int (nI (sN - 1))), (0, .ref o), (1, .int (nI w))]) hx hb dX11_layRound_221 rfl hl (by decide) rfl (fun ls hl => ?_)
              refine lv_iload hx hb dX11_layRound_222 (lv_at hl 1 rfl) ?_
              refine lv_istore (lv' := [(4, .int (nI nx)), (3, .int (nI (st ||| 1 * 2 ^ nx))), (5, .int (nI nx)), (2, .int (nI (sN - 1))), (0, .ref o), (1, .int (nI w))]) hx hb dX11_layRound_224 hl (by decide) rfl (fun ls hl => ?_)
              refine lv_aload_n hx hb dX11_layRound_226 rfl (lv_at hl 4 rfl) ?_
              refine lv_iload hx hb dX11_layRound_227 (lv_at hl 2 rfl) ?_
              refine xCv (wr := [(m_more, .inl (cI, 229376, .inl g3)), (m_follow, .inl (cI, 24, .inl f_follow))]) (win := [(o, .inr (11, [.ref m_tape, .ref m_text, .int m_taped, .int m_size, .int m_faultKind, .int m_faultPlace, .int m_at, .int m_end, .int m_token, .int m_number, .long m_name, .ref m_words, .ref m_errands, .ref m_alikes, .ref m_law, .ref m_worth, .ref m_times, .ref m_eWord, .ref m_eAfter, .ref m_sound, .ref m_isLaw, .ref m_wName, .int (nI bk), .int m_rb, .ref m_follow, .ref m_lengths, .ref m_said, .int m_latest, .int m_talked, .int m_sum, .int m_doneSet, .int m_w, .ref m_more, .ref m_laidRow, .int (nI ld3), .ref m_piece, .ref m_far, .ref m_steps, .ref m_ends, .ref m_hPlace, .ref m_hWhat, .ref m_hValue, .ref m_hTold, .ref m_hUntold, .int m_sounds, .int m_time, .ref m_ways, .ref m_goesOn, .ref m_boxMany, .ref m_boxLatest, .ref m_boxSum, .ref m_boxW, .ref m_boxDone, .ref m_boxSaid])), (m_laidRow, .inl (cI, 200, .inl gr3))]) hP hD hS hA [2, 1] [0, 3] rfl rfl (by decide) (by decide) (va_runV (As := [.int (nI nx)]) (rest := []) ⟨hx, hb, hml, hown, hts⟩ (c_X11_lay l D cB cI cJ cS cZ cO H.size o (nI nx) m_tape m_text m_taped m_size m_faultKind m_faultPlace m_at m_end m_token m_number m_name m_words m_errands m_alikes m_law m_worth m_times m_eWord m_eAfter m_sound m_isLaw m_wName (nI bk) m_rb m_follow m_lengths m_said m_latest m_talked m_sum m_doneSet m_w m_more m_laidRow ld3 m_piece m_far m_steps m_ends m_hPlace m_hWhat m_hValue m_hTold m_hUntold m_sounds m_time m_ways m_goesOn m_boxMany m_boxLatest m_boxSum m_boxW m_boxDone m_boxSaid gr3 (by first | assumption | omega | decide)) (cwV 1 hts gX11_layRound_X11_lay rfl rfl rfl (by decide +kernel) ⟨Nat.le_of_ble_eq_true rfl, Nat.le_of_ble_eq_true rfl⟩) (xPreV (win := [(o, .inr (11, [.ref m_tape, .ref m_text, .int m_taped, .int m_size, .int m_faultKind, .int m_faultPlace, .int m_at, .int m_end, .int m_token, .int m_number, .long m_name, .ref m_words, .ref m_errands, .ref m_alikes, .ref m_law, .ref m_worth, .ref m_times, .ref m_eWord, .ref m_eAfter, .ref m_sound, .ref m_isLaw, .ref m_wName, .int (nI bk), .int m_rb, .ref m_follow, .ref m_lengths, .ref m_said, .int m_latest, .int m_talked, .int m_sum, .int m_doneSet, .int m_w, .ref m_more, .ref m_laidRow, .int (nI ld3), .ref m_piece, .ref m_far, .ref m_steps, .ref m_ends, .ref m_hPlace, .ref m_hWhat, .ref m_hValue, .ref m_hTold, .ref m_hUntold, .int m_sounds, .int m_time, .ref m_ways, .ref m_goesOn, .ref m_boxMany, .ref m_boxLatest, .ref m_boxSum, .ref m_boxW, .ref m_boxDone, .ref m_boxSaid])), (m_laidRow, .inl (cI, 200, .inl gr3))]) hN hK hP hD [2, 1] (by decide) rfl 2 11 rfl rfl rfl) rfl rfl hl.1 rfl (lv_room (Nat.le_of_ble_eq_true rfl)) dX11_layRound_229 ⟨Nat.le_of_ble_eq_true rfl, Nat.le_of_ble_eq_true rfl⟩) (fun w0 H locs hw hP hD hS => ?_)
              obtain ⟨ld2_18, g_laidRow_19, rfl, hf_20⟩ := hw
              have hP : va_P D vwCl [(m_more, .inl (cI, 229376, .inl g3)), (m_follow, .inl (cI, 24, .inl f_follow)), (o, .inr (11, [.ref m_tape, .ref m_text, .int m_taped, .int m_size, .int m_faultKind, .int m_faultPlace, .int m_at, .int m_end, .int m_token, .int m_number, .long m_name, .ref m_words, .ref m_errands, .ref m_alikes, .ref m_law, .ref m_worth, .ref m_times, .ref m_eWord, .ref m_eAfter, .ref m_sound, .ref m_isLaw, .ref m_wName, .int (nI bk), .int m_rb, .ref m_follow, .ref m_lengths, .ref m_said, .int m_latest, .int m_talked, .int m_sum, .int m_doneSet, .int m_w, .ref m_more, .ref m_laidRow, .int (nI ld2_18), .ref m_piece, .ref m_far, .ref m_steps, .ref m_ends, .ref m_hPlace, .ref m_hWhat, .ref m_hValue, .ref m_hTold, .ref m_hUntold, .int m_sounds, .int m_time, .ref m_ways, .ref m_goesOn, .ref m_boxMany, .ref m_boxLatest, .ref m_boxSum, .ref m_boxW, .ref m_boxDone, .ref m_boxSaid])), (m_laidRow, .inl (cI, 200, .inl g_laidRow_19))] H := hP
              have hD : va_D A [(m_more, .inl (cI, 229376, .inl g3)), (m_follow, .inl (cI, 24, .inl f_follow)), (o, .inr (11, [.ref m_tape, .ref m_text, .int m_taped, .int m_size, .int m_faultKind, .int m_faultPlace, .int m_at, .int m_end, .int m_token, .int m_number, .long m_name, .ref m_words, .ref m_errands, .ref m_alikes, .ref m_law, .ref m_worth, .ref m_times, .ref m_eWord, .ref m_eAfter, .ref m_sound, .ref m_isLaw, .ref m_wName, .int (nI bk), .int m_rb, .ref m_follow, .ref m_lengths, .ref m_said, .int m_latest, .int m_talked, .int m_sum, .int m_doneSet, .int m_w, .ref m_more, .ref m_laidRow, .int (nI ld2_18), .ref m_piece, .ref m_far, .ref m_steps, .ref m_ends, .ref m_hPlace, .ref m_hWhat, .ref m_hValue, .ref m_hTold, .ref m_hUntold, .int m_sounds, .int m_time, .ref m_ways, .ref m_goesOn, .ref m_boxMany, .ref m_boxLatest, .ref m_boxSum, .ref m_boxW, .ref m_boxDone, .ref m_boxSaid])), (m_laidRow, .inl (cI, 200, .inl g_laidRow_19))] := hD
              refine lv_goto (tgt := 160) hx hb dX11_layRound_232 (by decide) ?_
              have hgt := or_gt (s := st) (o := nx) (by omega)
              exact kk_160 _ _ _ _ (by rw [← hn_160]; omega) ⟨(st ||| 1 * 2 ^ nx), nx, ld2_18, g_laidRow_19, rfl, hP.sub [1, 0, 2, 3] rfl, hD.sub [1, 0, 2, 3] (by decide) rfl, hS, lv_sub hl [0, 1, 3, 4, 5] rfl, (by omega), (by omega), (by omega), (by rw [bc_or (by omega) (by omega)]; omega), c_17⟩
            · refine lv_iinc (v := nI (nx + 1)) (lv' := [(5, .int (nI (nx + 1))), (4, .int (nI la)), (3, .int (nI st)), (2, .int (nI (sN - 1))), (0, .ref o), (1, .int (nI w))]) hx hb dX11_layRound_209 hl (k := 0) rfl (nI_1 nx) (by decide) rfl (fun ls hl => ?_)
              refine lv_goto (tgt := 168) hx hb dX11_layRound_212 (by decide) ?_
              have hlt9 : nx < o9 := Nat.lt_of_le_of_ne hF_h_14 (fun h => by subst h; exact he9 c_17)
              exact kk_168 _ _ _ _ (by rw [← hn_168]; omega) ⟨(nx + 1), rfl, hP.sub [3, 0, 2, 1] rfl, hD.sub [3, 0, 2, 1] (by decide) rfl, hS, lv_sub hl [0, 1, 2, 3, 4, 5] rfl, (by omega)⟩
    · refine lv_iconst (v := 0) hx hb dX11_layRound_148 (by decide) ?_
      have hP9 := hP.sub (ws' := [(o, .inr (11, [.ref m_tape, .ref m_text, .int m_taped, .int m_size, .int m_faultKind, .int m_faultPlace, .int m_at, .int m_end, .int m_token, .int m_number, .long m_name, .ref m_words, .ref m_errands, .ref m_alikes, .ref m_law, .ref m_worth, .ref m_times, .ref m_eWord, .ref m_eAfter, .ref m_sound, .ref m_isLaw, .ref m_wName, .int (nI bk), .int m_rb, .ref m_follow, .ref m_lengths, .ref m_said, .int m_latest, .int m_talked, .int m_sum, .int m_doneSet, .int m_w, .ref m_more, .ref m_laidRow, .int (nI ld), .ref m_piece, .ref m_far, .ref m_steps, .ref m_ends, .ref m_hPlace, .ref m_hWhat, .ref m_hValue, .ref m_hTold, .ref m_hUntold, .int m_sounds, .int m_time, .ref m_ways, .ref m_goesOn, .ref m_boxMany, .ref m_boxLatest, .ref m_boxSum, .ref m_boxW, .ref m_boxDone, .ref m_boxSaid])), (m_follow, .inl (cI, 24, .inl f_follow)), (m_more, .inl (cI, 229376, .inl g3)), (m_laidRow, .inl (cI, 200, .inl f_laidRow))]) [0, 1, 2, 3] rfl
      have hD9 := hD.sub (ws' := [(o, .inr (11, [.ref m_tape, .ref m_text, .int m_taped, .int m_size, .int m_faultKind, .int m_faultPlace, .int m_at, .int m_end, .int m_token, .int m_number, .long m_name, .ref m_words, .ref m_errands, .ref m_alikes, .ref m_law, .ref m_worth, .ref m_times, .ref m_eWord, .ref m_eAfter, .ref m_sound, .ref m_isLaw, .ref m_wName, .int (nI bk), .int m_rb, .ref m_follow, .ref m_lengths, .ref m_said, .int m_latest, .int m_talked, .int m_sum, .int m_doneSet, .int m_w, .ref m_more, .ref m_laidRow, .int (nI ld), .ref m_piece, .ref m_far, .ref m_steps, .ref m_ends, .ref m_hPlace, .ref m_hWhat, .ref m_hValue, .ref m_hTold, .ref m_hUntold, .int m_sounds, .int m_time, .ref m_ways, .ref m_goesOn, .ref m_boxMany, .ref m_boxLatest, .ref m_boxSum, .ref m_boxW, .ref m_boxDone, .ref m_boxSaid])), (m_follow, .inl (cI, 24, .inl f_follow)), (m_more, .inl (cI, 229376, .inl g3)), (m_laidRow, .inl (cI, 200, .inl f_laidRow))]) [0, 1, 2, 3] (by decide) rfl
      refine W.widen (k := 0) (n := 0) (Nat.le_of_ble_eq_true rfl) (Nat.le_of_ble_eq_true rfl) ?_
      exact W.zret (v := 0) hx hb hr (by decide) (fun tz htz hWz => ⟨⟨0, [(o, .inr (11, [.ref m_tape, .ref m_text, .int m_taped, .int m_size, .int m_faultKind, .int m_faultPlace, .int m_at, .int m_end, .int m_token, .int m_number, .long m_name, .ref m_words, .ref m_errands, .ref m_alikes, .ref m_law, .ref m_worth, .ref m_times, .ref m_eWord, .ref m_eAfter, .ref m_sound, .ref m_isLaw, .ref m_wName, .int (nI bk), .int m_rb, .ref m_follow, .ref m_lengths, .ref m_said, .int m_latest, .int m_talked, .int m_sum, .int m_doneSet, .int m_w, .ref m_more, .ref m_laidRow, .int (nI ld), .ref m_piece, .ref m_far, .ref m_steps, .ref m_ends, .ref m_hPlace, .ref m_hWhat, .ref m_hValue, .ref m_hTold, .ref m_hUntold, .int m_sounds, .int m_time, .ref m_ways, .ref m_goesOn, .ref m_boxMany, .ref m_boxLatest, .ref m_boxSum, .ref m_boxW, .ref m_boxDone, .ref m_boxSaid])), (m_follow, .inl (cI, 24, .inl f_follow)), (m_more, .inl (cI, 229376, .inl g3)), (m_laidRow, .inl (cI, 200, .inl f_laidRow))], rfl, ⟨ld, g3, f_laidRow, rfl, (Or.inl rfl), (by omega)⟩, by rw [htz]; exact hP9, va_K.moved hWz.alike hK, hD9⟩, hS.F htz⟩) hS.2.2 dX11_layRound_149
  · have dc_3 : ¬ st ≤ 0 := fun h => c_3 ((nI_leI (a := st) (b := 0) (by omega) (by omega)).mpr h)
    refine lv_iconst (v := 0) hx hb dX11_layRound_12 (by decide) ?_
    refine lv_istore (lv' := [(4, .int 0), (3, .int (nI st)), (2, .int (nI (sN - 1))), (0, .ref o), (1, .int (nI w))]) hx hb dX11_layRound_13 hl (by decide) rfl (fun ls hl => ?_)
    refine xb_wh (fun (n9 : Nat) H locs ls => ∃ k5 : Nat, ∃ g5 : Nat → Int32, (w - k5) = n9 ∧ va_P D vwCl [(o, .inr (11, [.ref m_tape, .ref m_text, .int m_taped, .int m_size, .int m_faultKind, .int m_faultPlace, .int m_at, .int m_end, .int m_token, .int m_number, .long m_name, .ref m_words, .ref m_errands, .ref m_alikes, .ref m_law, .ref m_worth, .ref m_times, .ref m_eWord, .ref m_eAfter, .ref m_sound, .ref m_isLaw, .ref m_wName, .int (nI bk), .int m_rb, .ref m_follow, .ref m_lengths, .ref m_said, .int m_latest, .int m_talked, .int m_sum, .int m_doneSet, .int m_w, .ref m_more, .ref m_laidRow, .int (nI ld), .ref m_piece, .ref m_far, .ref m_steps, .ref m_ends, .ref m_hPlace, .ref m_hWhat, .ref m_hValue, .ref m_hTold, .ref m_hUntold, .int m_sounds, .int m_time, .ref m_ways, .ref m_goesOn, .ref m_boxMany, .ref m_boxLatest, .ref m_boxSum, .ref m_boxW, .ref m_boxDone, .ref m_boxSaid])), (m_follow, .inl (cI, 24, .inl f_follow)), (m_more, .inl (cI, 229376, .inl g5)), (m_laidRow, .inl (cI, 200, .inl f_laidRow))] H ∧ va_D A [(o, .inr (11, [.ref m_tape, .ref m_text, .int m_taped, .int m_size, .int m_faultKind, .int m_faultPlace, .int m_at, .int m_end, .int m_token, .int m_number, .long m_name, .ref m_words, .ref m_errands, .ref m_alikes, .ref m_law, .ref m_worth, .ref m_times, .ref m_eWord, .ref m_eAfter, .ref m_sound, .ref m_isLaw, .ref m_wName, .int (nI bk), .int m_rb, .ref m_follow, .ref m_lengths, .ref m_said, .int m_latest, .int m_talked, .int m_sum, .int m_doneSet, .int m_w, .ref m_more, .ref m_laidRow, .int (nI ld), .ref m_piece, .ref m_far, .ref m_steps, .ref m_ends, .ref m_hPlace, .ref m_hWhat, .ref m_hValue, .ref m_hTold, .ref m_hUntold, .int m_sounds, .int m_time, .ref m_ways, .ref m_goesOn, .ref m_boxMany, .ref m_boxLatest, .ref m_boxSum, .ref m_boxW, .ref m_boxDone, .ref m_boxSaid])), (m_follow, .inl (cI, 24, .inl f_follow)), (m_more, .inl (cI, 229376, .inl g5)), (m_laidRow, .inl (cI, 200, .inl f_laidRow))] ∧ va_S A s.heap H locs ∧ lv_has ls 7 [(4, .int (nI k5)), (3, .int (nI st)), (2, .int (nI (sN - 1))), (0, .ref o), (1, .int (nI w))] ∧ (k5 ≤ w) ∧ (∀ s k, st < s → s < sN → k < w → R2 f_follow w sN g5 s k) ∧ (∀ k2, k2 < k5 → R2 f_follow w sN g5 st k2)) ⟨0, g3, rfl, hP, hD, hS, lv_sub hl [0, 1, 2, 3, 4] rfl, (Nat.zero_le _), hF_h_2, (fun k h => absurd h (Nat.not_lt_zero k))⟩ (fun n9 H locs ls hI kk_15 => ?_)
    obtain ⟨k5, g5, hn_15, hP, hD, hS, hl, hF_h_21, hF_h_22, hF_h_23⟩ := hI
    refine lv_iload hx hb dX11_layRound_15 (lv_at hl 0 rfl) ?_
    refine lv_iload_n hx hb dX11_layRound_17 rfl (lv_at hl 4 rfl) ?_
    refine lv_icmp_ge (tgt := 132) hx hb dX11_layRound_18 (by decide) (fun c_24 => ?_) (fun c_24 => ?_)
    · have dc_24 : w ≤ k5 := (nI_leI (a := w) (b := k5) (by omega) (by omega)).mp c_24
      refine lv_iinc (v := nI (st - 1)) (lv' := [(3, .int (nI (st - 1))), (4, .int (nI k5)), (2, .int (nI (sN - 1))), (0, .ref o), (1, .int (nI w))]) hx hb dX11_layRound_132 hl (k := 1) rfl (dec1 (by omega)) (by decide) rfl (fun ls hl => ?_)
      refine lv_goto (tgt := 8) hx hb dX11_layRound_135 (by decide) ?_
      exact kk_8 _ _ _ _ (by rw [← hn_8]; omega) ⟨(st - 1), g5, rfl, hP, hD, hS, lv_sub hl [0, 2, 3, 4] rfl, (by omega), (fun s k h1 h2 h3 => if h9 : s = st then (by subst h9; exact hF_h_23 k (by omega)) else hF_h_22 s k (by omega) h2 h3)⟩
    · have dc_24 : ¬ w ≤ k5 := fun h => c_24 ((nI_leI (a := w) (b := k5) (by omega) (by omega)).mpr h)
      refine lv_iload_n hx hb dX11_layRound_21 rfl (lv_at hl 1 rfl) ?_
      refine lv_iload_n hx hb dX11_layRound_22 rfl (lv_at hl 2 rfl) ?_
      refine lv_icmp_ne (tgt := 40) hx hb dX11_layRound_23 (by decide) (fun c_25 => ?_) (fun c_25 => ?_)
      · have dc_25 : ¬ st = (sN - 1) := fun h => c_25 ((nI_eq (a := st) (b := sN - 1) (by omega) (by omega)).mpr h)
        refine lv_iconst (v := 0) hx hb dX11_layRound_40 (by decide) ?_
        refine lv_istore (lv' := [(5, .int 0), (4, .int (nI k5)), (3, .int (nI st)), (2, .int (nI (sN - 1))), (0, .ref o), (1, .int (nI w))]) hx hb dX11_layRound_41 hl (by decide) rfl (fun ls hl => ?_)
        refine lv_iconst (v := 0) hx hb dX11_layRound_43 (by decide) ?_
        refine lv_istore (lv' := [(6, .int 0), (5, .int 0), (4, .int (nI k5)), (3, .int (nI st)), (2, .int (nI (sN - 1))), (0, .ref o), (1, .int (nI w))]) hx hb dX11_layRound_44 hl (by decide) rfl (fun ls hl => ?_)
        refine xb_wh (fun (n9 : Nat) H locs ls => ∃ o5 : Nat, ∃ be : Int32, (w - o5) = n9 ∧ va_P D vwCl [(o, .inr (11, [.ref m_tape, .ref m_text, .int m_taped, .int m_size, .int m_faultKind, .int m_faultPlace, .int m_at, .int m_end, .int m_token, .int m_number, .long m_name, .ref m_words, .ref m_errands, .ref m_alikes, .ref m_law, .ref m_worth, .ref m_times, .ref m_eWord, .ref m_eAfter, .ref m_sound, .ref m_isLaw, .ref m_wName, .int (nI bk), .int m_rb, .ref m_follow, .ref m_lengths, .ref m_said, .int m_latest, .int m_talked, .int m_sum, .int m_doneSet, .int m_w, .ref m_more, .ref m_laidRow, .int (nI ld), .ref m_piece, .ref m_far, .ref m_steps, .ref m_ends, .ref m_hPlace, .ref m_hWhat, .ref m_hValue, .ref m_hTold, .ref m_hUntold, .int m_sounds, .int m_time, .ref m_ways, .ref m_goesOn, .ref m_boxMany, .ref m_boxLatest, .ref m_boxSum, .ref m_boxW, .ref m_boxDone, .ref m_boxSaid])), (m_follow, .inl (cI, 24, .inl f_follow)), (m_more, .inl (cI, 229376, .inl g5)), (m_laidRow, .inl (cI, 200, .inl f_laidRow))] H ∧ va_D A [(o, .inr (11, [.ref m_tape, .ref m_text, .int m_taped, .int m_size, .int m_faultKind, .int m_faultPlace, .int m_at, .int m_end, .int m_token, .int m_number, .long m_name, .ref m_words, .ref m_errands, .ref m_alikes, .ref m_law, .ref m_worth, .ref m_times, .ref m_eWord, .ref m_eAfter, .ref m_sound, .ref m_isLaw, .ref m_wName, .int (nI bk), .int m_rb, .ref m_follow, .ref m_lengths, .ref m_said, .int m_latest, .int m_talked, .int m_sum, .int m_doneSet, .int m_w, .ref m_more, .ref m_laidRow, .int (nI ld), .ref m_piece, .ref m_far, .ref m_steps, .ref m_ends, .ref m_hPlace, .ref m_hWhat, .ref m_hValue, .ref m_hTold, .ref m_hUntold, .int m_sounds, .int m_time, .ref m_ways, .ref m_goesOn, .ref m_boxMany, .ref m_boxLatest, .ref m_boxSum, .ref m_boxW, .ref m_boxDone, .ref m_boxSaid])), (m_follow, .inl (cI, 24, .inl f_follow)), (m_more, .inl (cI, 229376, .inl g5)), (m_laidRow, .inl (cI, 200, .inl f_laidRow))] ∧ va_S A s.heap H locs ∧ lv_has ls 7 [(6, .int (nI o5)), (5, .int be), (4, .int (nI k5)), (3, .int (nI st)), (2, .int (nI (sN - 1))), (0, .ref o), (1, .int (nI w))] ∧ (o5 ≤ w) ∧ (be = 0 ∨ st = sN - 1 ∨ ∃ o9, o9 < w ∧ st / 2 ^ o9 % 2 = 0 ∧ ¬ aft f_follow k5 o9 = 0 ∧ ¬ g5 (14 * (st ||| 1 * 2 ^ o9) + o9) = 0)) ⟨0, 0, rfl, hP, hD, hS, lv_sub hl [0, 1, 2, 3, 4, 5, 6] rfl, (Nat.zero_le _), (Or.inl rfl)⟩ (fun n9 H locs ls hI kk_46 => ?_)
        obtain ⟨o5, be, hn_46, hP, hD, hS, hl, hF_h_26, hF_h_27⟩ := hI
        refine lv_iload hx hb dX11_layRound_46 (lv_at hl 0 rfl) ?_
        refine lv_iload_n hx hb dX11_layRound_48 rfl (lv_at hl 6 rfl) ?_
        refine lv_icmp_ge (tgt := 112) hx hb dX11_layRound_49 (by decide) (fun c_28 => ?_) (fun c_28 => ?_)
        · have dc_28 : w ≤ o5 := (nI_leI (a := w) (b := o5) (by omega) (by omega)).mp c_28
          refine lv_aload_n hx hb dX11_layRound_112 rfl (lv_at hl 5 rfl) ?_
          refine va_get (D := D) (ci := 11) (v := .ref m_more) (C := RX11) (T := TX11) (N := 54) hx hb hts (by decide +kernel) hown hK hP 0 rfl rfl 32 (by decide) (hts (.fieldLink RX11 69 "LastLetterModel" "more" "[I") (by decide +kernel)) (fun _ h9 => h9) rfl dX11_layRound_113 ?_
          refine lv_bipush (v := 14) hx hb dX11_layRound_116 (by decide) ?_
          refine lv_iload_n hx hb dX11_layRound_118 rfl (lv_at hl 3 rfl) ?_
          refine lv_imul hx hb dX11_layRound_119 ?_
          refine xb_top (y := nI (14 * st)) (pk_mul 14 st) ?_
          refine lv_iload hx hb dX11_layRound_120 (lv_at hl 2 rfl) ?_
          refine lv_iadd hx hb dX11_layRound_122 ?_
          refine xb_top (y := nI ((14 * st) + k5)) (nI_add (14 * st) k5) ?_
          refine lv_iload hx hb dX11_layRound_123 (lv_at hl 1 rfl) ?_
          refine va_iast hx hb hK hP hD hS 2 1 rfl rfl (vp_in_nI (by omega) (by omega)) dX11_layRound_125 (fun H locs hP hD hS => ?_)
          have hP : va_P D vwCl [(o, .inr (11, [.ref m_tape, .ref m_text, .int m_taped, .int m_size, .int m_faultKind, .int m_faultPlace, .int m_at, .int m_end, .int m_token, .int m_number, .long m_name, .ref m_words, .ref m_errands, .ref m_alikes, .ref m_law, .ref m_worth, .ref m_times, .ref m_eWord, .ref m_eAfter, .ref m_sound, .ref m_isLaw, .ref m_wName, .int (nI bk), .int m_rb, .ref m_follow, .ref m_lengths, .ref m_said, .int m_latest, .int m_talked, .int m_sum, .int m_doneSet, .int m_w, .ref m_more, .ref m_laidRow, .int (nI ld), .ref m_piece, .ref m_far, .ref m_steps, .ref m_ends, .ref m_hPlace, .ref m_hWhat, .ref m_hValue, .ref m_hTold, .ref m_hUntold, .int m_sounds, .int m_time, .ref m_ways, .ref m_goesOn, .ref m_boxMany, .ref m_boxLatest, .ref m_boxSum, .ref m_boxW, .ref m_boxDone, .ref m_boxSaid])), (m_follow, .inl (cI, 24, .inl f_follow)), (m_more, .inl (cI, 229376, .inl (upd g5 (Int32.toNatClampNeg (nI ((14 * st) + k5))) be))), (m_laidRow, .inl (cI, 200, .inl f_laidRow))] H := hP
          have hD : va_D A [(o, .inr (11, [.ref m_tape, .ref m_text, .int m_taped, .int m_size, .int m_faultKind, .int m_faultPlace, .int m_at, .int m_end, .int m_token, .int m_number, .long m_name, .ref m_words, .ref m_errands, .ref m_alikes, .ref m_law, .ref m_worth, .ref m_times, .ref m_eWord, .ref m_eAfter, .ref m_sound, .ref m_isLaw, .ref m_wName, .int (nI bk), .int m_rb, .ref m_follow, .ref m_lengths, .ref m_said, .int m_latest, .int m_talked, .int m_sum, .int m_doneSet, .int m_w, .ref m_more, .ref m_laidRow, .int (nI ld), .ref m_piece, .ref m_far, .ref m_steps, .ref m_ends, .ref m_hPlace, .ref m_hWhat, .ref m_hValue, .ref m_hTold, .ref m_hUntold, .int m_sounds, .int m_time, .ref m_ways, .ref m_goesOn, .ref m_boxMany, .ref m_boxLatest, .ref m_boxSum, .ref m_boxW, .ref m_boxDone, .ref m_boxSaid])), (m_follow, .inl (cI, 24, .inl f_follow)), (m_more, .inl (cI, 229376, .inl (upd g5 (Int32.toNatClampNeg (nI ((14 * st) + k5))) be))), (m_laidRow, .inl (cI, 200, .inl f_laidRow))] := hD
          generalize eg_29 : upd g5 (Int32.toNatClampNeg (nI ((14 * st) + k5))) be = g_29 at hP hD
          refine lv_iinc (v := nI (k5 + 1)) (lv' := [(4, .int (nI (k5 + 1))), (6, .int (nI o5)), (5, .int be), (3, .int (nI st)), (2, .int (nI (sN - 1))), (0, .ref o), (1, .int (nI w))]) hx hb dX11_layRound_126 hl (k := 2) rfl (nI_1 k5) (by decide) rfl (fun ls hl => ?_)
          refine lv_goto (tgt := 15) hx hb dX11_layRound_129 (by decide) ?_
          obtain ⟨hu1, hu2⟩ := Tb_up R2_loc hw4 (by omega) (by omega) hF_h_22 hF_h_23 eg_29 (R2_new hw4 (by omega) (by omega) hF_h_27 eg_29)
          exact kk_15 _ _ _ _ (by rw [← hn_15]; omega) ⟨(k5 + 1), g_29, rfl, hP, hD, hS, lv_sub hl [0, 3, 4, 5, 6] rfl, (by omega), hu1, hu2⟩
        · have dc_28 : ¬ w ≤ o5 := fun h => c_28 ((nI_leI (a := w) (b := o5) (by omega) (by omega)).mpr h)
          refine lv_iload hx hb dX11_layRound_52 (lv_at hl 1 rfl) ?_
          refine lv_if_ne (tgt := 112) hx hb dX11_layRound_54 (by decide) (fun c_30 => ?_) (fun c_30 => ?_)
          · refine lv_aload_n hx hb dX11_layRound_112 rfl (lv_at hl 5 rfl) ?_
            refine va_get (D := D) (ci := 11) (v := .ref m_more) (C := RX11) (T := TX11) (N := 54) hx hb hts (by decide +kernel) hown hK hP 0 rfl rfl 32 (by decide) (hts (.fieldLink RX11 69 "LastLetterModel" "more" "[I") (by decide +kernel)) (fun _ h9 => h9) rfl dX11_layRound_113 ?_
            refine lv_bipush (v := 14) hx hb dX11_layRound_116 (by decide) ?_
            refine lv_iload_n hx hb dX11_layRound_118 rfl (lv_at hl 3 rfl) ?_
            refine lv_imul hx hb dX11_layRound_119 ?_
            refine xb_top (y := nI (14 * st)) (pk_mul 14 st) ?_
            refine lv_iload hx hb dX11_layRound_120 (lv_at hl 2 rfl) ?_
            refine lv_iadd hx hb dX11_layRound_122 ?_
            refine xb_top (y := nI ((14 * st) + k5)) (nI_add (14 * st) k5) ?_
            refine lv_iload hx hb dX11_layRound_123 (lv_at hl 1 rfl) ?_
            refine va_iast hx hb hK hP hD hS 2 1 rfl rfl (vp_in_nI (by omega) (by omega)) dX11_layRound_125 (fun H locs hP hD hS => ?_)
            have hP : va_P D vwCl [(o, .inr (11, [.ref m_tape, .ref m_text, .int m_taped, .int m_size, .int m_faultKind, .int m_faultPlace, .int m_at, .int m_end, .int m_token, .int m_number, .long m_name, .ref m_words, .ref m_errands, .ref m_alikes, .ref m_law, .ref m_worth, .ref m_times, .ref m_eWord, .ref m_eAfter, .ref m_sound, .ref m_isLaw, .ref m_wName, .int (nI bk), .int m_rb, .ref m_follow, .ref m_lengths, .ref m_said, .int m_latest, .int m_talked, .int m_sum, .int m_doneSet, .int m_w, .ref m_more, .ref m_laidRow, .int (nI ld), .ref m_piece, .ref m_far, .ref m_steps, .ref m_ends, .ref m_hPlace, .ref m_hWhat, .ref m_hValue, .ref m_hTold, .ref m_hUntold, .int m_sounds, .int m_time, .ref m_ways, .ref m_goesOn, .ref m_boxMany, .ref m_boxLatest, .ref m_boxSum, .ref m_boxW, .ref m_boxDone, .ref m_boxSaid])), (m_follow, .inl (cI, 24, .inl f_follow)), (m_more, .inl (cI, 229376, .inl (upd g5 (Int32.toNatClampNeg (nI ((14 * st) + k5))) be))), (m_laidRow, .inl (cI, 200, .inl f_laidRow))] H := hP
            have hD : va_D A [(o, .inr (11, [.ref m_tape, .ref m_text, .int m_taped, .int m_size, .int m_faultKind, .int m_faultPlace, .int m_at, .int m_end, .int m_token, .int m_number, .long m_name, .ref m_words, .ref m_errands, .ref m_alikes, .ref m_law, .ref m_worth, .ref m_times, .ref m_eWord, .ref m_eAfter, .ref m_sound, .ref m_isLaw, .ref m_wName, .int (nI bk), .int m_rb, .ref m_follow, .ref m_lengths, .ref m_said, .int m_latest, .int m_talked, .int m_sum, .int m_doneSet, .int m_w, .ref m_more, .ref m_laidRow, .int (nI ld), .ref m_piece, .ref m_far, .ref m_steps, .ref m_ends, .ref m_hPlace, .ref m_hWhat, .ref m_hValue, .ref m_hTold, .ref m_hUntold, .int m_sounds, .int m_time, .ref m_ways, .ref m_goesOn, .ref m_boxMany, .ref m_boxLatest, .ref m_boxSum, .ref m_boxW, .ref m_boxDone, .ref m_boxSaid])), (m_follow, .inl (cI, 24, .inl f_follow)), (m_more, .inl (cI, 229376, .inl (upd g5 (Int32.toNatClampNeg (nI ((14 * st) + k5))) be))), (m_laidRow, .inl (cI, 200, .inl f_laidRow))] := hD
            generalize eg_31 : upd g5 (Int32.toNatClampNeg (nI ((14 * st) + k5))) be = g_31 at hP hD
            refine lv_iinc (v := nI (k5 + 1)) (lv' := [(4, .int (nI (k5 + 1))), (6, .int (nI o5)), (5, .int be), (3, .int (nI st)), (2, .int (nI (sN - 1))), (0, .ref o), (1, .int (nI w))]) hx hb dX11_layRound_126 hl (k := 2) rfl (nI_1 k5) (by decide) rfl (fun ls hl => ?_)
            refine lv_goto (tgt := 15) hx hb dX11_layRound_129 (by decide) ?_
            obtain ⟨hu1, hu2⟩ := Tb_up R2_loc hw4 (by omega) (by omega) hF_h_22 hF_h_23 eg_31 (R2_new hw4 (by omega) (by omega) hF_h_27 eg_31)
            exact kk_15 _ _ _ _ (by rw [← hn_15]; omega) ⟨(k5 + 1), g_31, rfl, hP, hD, hS, lv_sub hl [0, 3, 4, 5, 6] rfl, (by omega), hu1, hu2⟩
          · refine lv_iload_n hx hb dX11_layRound_57 rfl (lv_at hl 3 rfl) ?_
            refine lv_iload hx hb dX11_layRound_58 (lv_at hl 2 rfl) ?_
            refine lv_ishr hx hb dX11_layRound_60 ?_
            refine xb_top (y := nI (st / 2 ^ k5)) (nb_shr (a := st) (i := k5) (by omega) (by omega)) ?_
            refine lv_iconst (v := 1) hx hb dX11_layRound_61 (by decide) ?_
            refine lv_iand hx hb dX11_layRound_62 ?_
            refine xb_top (y := nI (st / 2 ^ k5 % 2)) ((nb_and _ 1).trans (by rw [Nat.and_one_is_mod])) ?_
            refine lv_iconst (v := 1) hx hb dX11_layRound_63 (by decide) ?_
            refine lv_icmp_ne (tgt := 112) hx hb dX11_layRound_64 (by decide) (fun c_32 => ?_) (fun c_32 => ?_)
            · have dc_32 : ¬ (st / 2 ^ k5 % 2) = 1 := fun h => c_32 ((nI_eq (a := st / 2 ^ k5 % 2) (b := 1) (by omega) (by omega)).mpr h)
              refine lv_aload_n hx hb dX11_layRound_112 rfl (lv_at hl 5 rfl) ?_
              refine va_get (D := D) (ci := 11) (v := .ref m_more) (C := RX11) (T := TX11) (N := 54) hx hb hts (by decide +kernel) hown hK hP 0 rfl rfl 32 (by decide) (hts (.fieldLink RX11 69 "LastLetterModel" "more" "[I") (by decide +kernel)) (fun _ h9 => h9) rfl dX11_layRound_113 ?_
              refine lv_bipush (v := 14) hx hb dX11_layRound_116 (by decide) ?_
              refine lv_iload_n hx hb dX11_layRound_118 rfl (lv_at hl 3 rfl) ?_
              refine lv_imul hx hb dX11_layRound_119 ?_
              refine xb_top (y := nI (14 * st)) (pk_mul 14 st) ?_
              refine lv_iload hx hb dX11_layRound_120 (lv_at hl 2 rfl) ?_
              refine lv_iadd hx hb dX11_layRound_122 ?_
              refine xb_top (y := nI ((14 * st) + k5)) (nI_add (14 * st) k5) ?_
              refine lv_iload hx hb dX11_layRound_123 (lv_at hl 1 rfl) ?_
              refine va_iast hx hb hK hP hD hS 2 1 rfl rfl (vp_in_nI (by omega) (by omega)) dX11_layRound_125 (fun H locs hP hD hS => ?_)
              have hP : va_P D vwCl [(o, .inr (11, [.ref m_tape, .ref m_text, .int m_taped, .int m_size, .int m_faultKind, .int m_faultPlace, .int m_at, .int m_end, .int m_token, .int m_number, .long m_name, .ref m_words, .ref m_errands, .ref m_alikes, .ref m_law, .ref m_worth, .ref m_times, .ref m_eWord, .ref m_eAfter, .ref m_sound, .ref m_isLaw, .ref m_wName, .int (nI bk), .int m_rb, .ref m_follow, .ref m_lengths, .ref m_said, .int m_latest, .int m_talked, .int m_sum, .int m_doneSet, .int m_w, .ref m_more, .ref m_laidRow, .int (nI ld), .ref m_piece, .ref m_far, .ref m_steps, .ref m_ends, .ref m_hPlace, .ref m_hWhat, .ref m_hValue, .ref m_hTold, .ref m_hUntold, .int m_sounds, .int m_time, .ref m_ways, .ref m_goesOn, .ref m_boxMany, .ref m_boxLatest, .ref m_boxSum, .ref m_boxW, .ref m_boxDone, .ref m_boxSaid])), (m_follow, .inl (cI, 24, .inl f_follow)), (m_more, .inl (cI, 229376, .inl (upd g5 (Int32.toNatClampNeg (nI ((14 * st) + k5))) be))), (m_laidRow, .inl (cI, 200, .inl f_laidRow))] H := hP
              have hD : va_D A [(o, .inr (11, [.ref m_tape, .ref m_text, .int m_taped, .int m_size, .int m_faultKind, .int m_faultPlace, .int m_at, .int m_end, .int m_token, .int m_number, .long m_name, .ref m_words, .ref m_errands, .ref m_alikes, .ref m_law, .ref m_worth, .ref m_times, .ref m_eWord, .ref m_eAfter, .ref m_sound, .ref m_isLaw, .ref m_wName, .int (nI bk), .int m_rb, .ref m_follow, .ref m_lengths, .ref m_said, .int m_latest, .int m_talked, .int m_sum, .int m_doneSet, .int m_w, .ref m_more, .ref m_laidRow, .int (nI ld), .ref m_piece, .ref m_far, .ref m_steps, .ref m_ends, .ref m_hPlace, .ref m_hWhat, .ref m_hValue, .ref m_hTold, .ref m_hUntold, .int m_sounds, .int m_time, .ref m_ways, .ref m_goesOn, .ref m_boxMany, .ref m_boxLatest, .ref m_boxSum, .ref m_boxW, .ref m_boxDone, .ref m_boxSaid])), (m_follow, .inl (cI, 24, .inl f_follow)), (m_more, .inl (cI, 229376, .inl (upd g5 (Int32.toNatClampNeg (nI ((14 * st) + k5))) be))), (m_laidRow, .inl (cI, 200, .inl f_laidRow))] := hD
              generalize eg_33 : upd g5 (Int32.toNatClampNeg (nI ((14 * st) + k5))) be = g_33 at hP hD
              refine lv_iinc (v := nI (k5 + 1)) (lv' := [(4, .int (nI (k5 + 1))), (6, .int (nI o5)), (5, .int be), (3, .int (nI st)), (2, .int (nI (sN - 1))), (0, .ref o), (1, .int (nI w))]) hx hb dX11_layRound_126 hl (k := 2) rfl (nI_1 k5) (by decide) rfl (fun ls hl => ?_)
              refine lv_goto (tgt := 15) hx hb dX11_layRound_129 (by decide) ?_
              obtain ⟨hu1, hu2⟩ := Tb_up R2_loc hw4 (by omega) (by omega) hF_h_22 hF_h_23 eg_33 (R2_new hw4 (by omega) (by omega) hF_h_27 eg_33)
              exact kk_15 _ _ _ _ (by rw [← hn_15]; omega) ⟨(k5 + 1), g_33, rfl, hP, hD, hS, lv_sub hl [0, 3, 4, 5, 6] rfl, (by omega), hu1, hu2⟩
            · have dc_32 : st / 2 ^ k5 % 2 = 1 := (nI_eq (a := st / 2 ^ k5 % 2) (b := 1) (by omega) (by omega)).mp c_32
              refine lv_iload_n hx hb dX11_layRound_67 rfl (lv_at hl 3 rfl) ?_
              refine lv_iload hx hb dX11_layRound_68 (lv_at hl 0 rfl) ?_
              refine lv_ishr hx hb dX11_layRound_70 ?_
              refine xb_top (y := nI (st / 2 ^ o5)) (nb_shr (a := st) (i := o5) (by omega) (by omega)) ?_
              refine lv_iconst (v := 1) hx hb dX11_layRound_71 (by decide) ?_
              refine lv_iand hx hb dX11_layRound_72 ?_
              refine xb_top (y := nI (st / 2 ^ o5 % 2)) ((nb_and _ 1).trans (by rw [Nat.and_one_is_mod])) ?_
              refine lv_if_ne (tgt := 106) hx hb dX11_layRound_73 (by decide) (fun c_34 => ?_) (fun c_34 => ?_)
              · have dc_34 : ¬ (st / 2 ^ o5 % 2) = 0 := fun h => c_34 ((nI_eq (a := st / 2 ^ o5 % 2) (b := 0) (by omega) (by omega)).mpr h)
                refine lv_iinc (v := nI (o5 + 1)) (lv' := [(6, .int (nI (o5 + 1))), (5, .int be), (4, .int (nI k5)), (3, .int (nI st)), (2, .int (nI (sN - 1))), (0, .ref o), (1, .int (nI w))]) hx hb dX11_layRound_106 hl (k := 0) rfl (nI_1 o5) (by decide) rfl (fun ls hl => ?_)
                refine lv_goto (tgt := 46) hx hb dX11_layRound_109 (by decide) ?_
                exact kk_46 _ _ _ _ (by rw [← hn_46]; omega) ⟨(o5 + 1), be, rfl, hP, hD, hS, lv_sub hl [0, 1, 2, 3, 4, 5, 6] rfl, (by omega), hF_h_27⟩
              · have dc_34 : st / 2 ^ o5 % 2 = 0 := (nI_eq (a := st / 2 ^ o5 % 2) (b := 0) (by omega) (by omega)).mp c_34
                refine lv_aload_n hx hb dX11_layRound_76 rfl (lv_at hl 5 rfl) ?_
                refine lv_iload hx hb dX11_layRound_77 (lv_at hl 2 rfl) ?_
                refine lv_iload hx hb dX11_layRound_79 (lv_at hl 0 rfl) ?_
                refine xCi (wr := [(m_more, .inl (cI, 229376, .inl g5)), (m_laidRow, .inl (cI, 200, .inl f_laidRow))]) (win := [(o, .inr (11, [.ref m_tape, .ref m_text, .int m_taped, .int m_size, .int m_faultKind, .int m_faultPlace, .int m_at, .int m_end, .int m_token, .int m_number, .long m_name, .ref m_words, .ref m_errands, .ref m_alikes, .ref m_law, .ref m_worth, .ref m_times, .ref m_eWord, .ref m_eAfter, .ref m_sound, .ref m_isLaw, .ref m_wName, .int (nI bk), .int m_rb, .ref m_follow, .ref m_lengths, .ref m_said, .int m_latest, .int m_talked, .int m_sum, .int m_doneSet, .int m_w, .ref m_more, .ref m_laidRow, .int (nI ld), .ref m_piece, .ref m_far, .ref m_steps, .ref m_ends, .ref m_hPlace, .ref m_hWhat, .ref m_hValue, .ref m_hTold, .ref m_hUntold, .int m_sounds, .int m_time, .ref m_ways, .ref m_goesOn, .ref m_boxMany, .ref m_boxLatest, .ref m_boxSum, .ref m_boxW, .ref m_boxDone, .ref m_boxSaid])), (m_follow, .inl (cI, 24, .inl f_follow))]) hP hD hS hA [0, 1] [2, 3] rfl rfl (by decide) (by decide) (va_runV (As := [.int (nI k5), .int (nI o5)]) (rest := []) ⟨hx, hb, hml, hown, hts⟩ (c_X11_isAfter l D cB cI cJ cS cZ cO H.size o k5 o5 m_tape m_text m_taped m_size m_faultKind m_faultPlace m_at m_end m_token m_number m_name m_words m_errands m_alikes m_law m_worth m_times m_eWord m_eAfter m_sound m_isLaw m_wName (nI bk) m_rb m_follow m_lengths m_said m_latest m_talked m_sum m_doneSet m_w m_more m_laidRow (nI ld) m_piece m_far m_steps m_ends m_hPlace m_hWhat m_hValue m_hTold m_hUntold m_sounds m_time m_ways m_goesOn m_boxMany m_boxLatest m_boxSum m_boxW m_boxDone m_boxSaid f_follow (by first | assumption | omega | decide)) (cwV 2 hts gX11_layRound_X11_isAfter rfl rfl rfl (by decide +kernel) ⟨Nat.le_of_ble_eq_true rfl, Nat.le_of_ble_eq_true rfl⟩) (xPreV (win := [(o, .inr (11, [.ref m_tape, .ref m_text, .int m_taped, .int m_size, .int m_faultKind, .int m_faultPlace, .int m_at, .int m_end, .int m_token, .int m_number, .long m_name, .ref m_words, .ref m_errands, .ref m_alikes, .ref m_law, .ref m_worth, .ref m_times, .ref m_eWord, .ref m_eAfter, .ref m_sound, .ref m_isLaw, .ref m_wName, .int (nI bk), .int m_rb, .ref m_follow, .ref m_lengths, .ref m_said, .int m_latest, .int m_talked, .int m_sum, .int m_doneSet, .int m_w, .ref m_more, .ref m_laidRow, .int (nI ld), .ref m_piece, .ref m_far, .ref m_steps, .ref m_ends, .ref m_hPlace, .ref m_hWhat, .ref m_hValue, .ref m_hTold, .ref m_hUntold, .int m_sounds, .int m_time, .ref m_ways, .ref m_goesOn, .ref m_boxMany, .ref m_boxLatest, .ref m_boxSum, .ref m_boxW, .ref m_boxDone, .ref m_boxSaid])), (m_follow, .inl (cI, 24, .inl f_follow))]) hN hK hP hD [0, 1] (by decide) rfl 0 11 rfl rfl rfl) rfl rfl hl.1 rfl (lv_room (Nat.le_of_ble_eq_true rfl)) dX11_layRound_81 ⟨Nat.le_of_ble_eq_true rfl, Nat.le_of_ble_eq_true rfl⟩) (fun r0 w0 H locs hw hP hD hS => ?_)
                obtain ⟨rfl, rfl⟩ := hw
                have hP : va_P D vwCl [(m_more, .inl (cI, 229376, .inl g5)), (m_laidRow, .inl (cI, 200, .inl f_laidRow)), (o, .inr (11, [.ref m_tape, .ref m_text, .int m_taped, .int m_size, .int m_faultKind, .int m_faultPlace, .int m_at, .int m_end, .int m_token, .int m_number, .long m_name, .ref m_words, .ref m_errands, .ref m_alikes, .ref m_law, .ref m_worth, .ref m_times, .ref m_eWord, .ref m_eAfter, .ref m_sound, .ref m_isLaw, .ref m_wName, .int (nI bk), .int m_rb, .ref m_follow, .ref m_lengths, .ref m_said, .int m_latest, .int m_talked, .int m_sum, .int m_doneSet, .int m_w, .ref m_more, .ref m_laidRow, .int (nI ld), .ref m_piece, .ref m_far, .ref m_steps, .ref m_ends, .ref m_hPlace, .ref m_hWhat, .ref m_hValue, .ref m_hTold, .ref m_hUntold, .int m_sounds, .int m_time, .ref m_ways, .ref m_goesOn, .ref m_boxMany, .ref m_boxLatest, .ref m_boxSum, .ref m_boxW, .ref m_boxDone, .ref m_boxSaid])), (m_follow, .inl (cI, 24, .inl f_follow))] H := hP
                have hD : va_D A [(m_more, .inl (cI, 229376, .inl g5)), (m_laidRow, .inl (cI, 200, .inl f_laidRow)), (o, .inr (11, [.ref m_tape, .ref m_text, .int m_taped, .int m_size, .int m_faultKind, .int m_faultPlace, .int m_at, .int m_end, .int m_token, .int m_number, .long m_name, .ref m_words, .ref m_errands, .ref m_alikes, .ref m_law, .ref m_worth, .ref m_times, .ref m_eWord, .ref m_eAfter, .ref m_sound, .ref m_isLaw, .ref m_wName, .int (nI bk), .int m_rb, .ref m_follow, .ref m_lengths, .ref m_said, .int m_latest, .int m_talked, .int m_sum, .int m_doneSet, .int m_w, .ref m_more, .ref m_laidRow, .int (nI ld), .ref m_piece, .ref m_far, .ref m_steps, .ref m_ends, .ref m_hPlace, .ref m_hWhat, .ref m_hValue, .ref m_hTold, .ref m_hUntold, .int m_sounds, .int m_time, .ref m_ways, .ref m_goesOn, .ref m_boxMany, .ref m_boxLatest, .ref m_boxSum, .ref m_boxW, .ref m_boxDone, .ref m_boxSaid])), (m_follow, .inl (cI, 24, .inl f_follow))] := hD
                refine lv_if_eq (tgt := 106) hx hb dX11_layRound_84 (by decide) (fun c_35 => ?_) (fun c_35 => ?_)
                · refine lv_iinc (v := nI (o5 + 1)) (lv' := [(6, .int (nI (o5 + 1))), (5, .int be), (4, .int (nI k5)), (3, .int (nI st)), (2, .int (nI (sN - 1))), (0, .ref o), (1, .int (nI w))]) hx hb dX11_layRound_106 hl (k := 0) rfl (nI_1 o5) (by decide) rfl (fun ls hl => ?_)
                  refine lv_goto (tgt := 46) hx hb dX11_layRound_109 (by decide) ?_
                  exact kk_46 _ _ _ _ (by rw [← hn_46]; omega) ⟨(o5 + 1), be, rfl, hP.sub [2, 3, 0, 1] rfl, hD.sub [2, 3, 0, 1] (by decide) rfl, hS, lv_sub hl [0, 1, 2, 3, 4, 5, 6] rfl, (by omega), hF_h_27⟩
                · refine lv_aload_n hx hb dX11_layRound_87 rfl (lv_at hl 5 rfl) ?_
                  refine va_get (D := D) (ci := 11) (v := .ref m_more) (C := RX11) (T := TX11) (N := 54) hx hb hts (by decide +kernel) hown hK hP 2 rfl rfl 32 (by decide) (hts (.fieldLink RX11 69 "LastLetterModel" "more" "[I") (by decide +kernel)) (fun _ h9 => h9) rfl dX11_layRound_88 ?_
                  refine lv_bipush (v := 14) hx hb dX11_layRound_91 (by decide) ?_
                  refine lv_iload_n hx hb dX11_layRound_93 rfl (lv_at hl 3 rfl) ?_
                  refine lv_iconst (v := 1) hx hb dX11_layRound_94 (by decide) ?_
                  refine lv_iload hx hb dX11_layRound_95 (lv_at hl 0 rfl) ?_
                  refine lv_ishl hx hb dX11_layRound_97 ?_
                  refine xb_top (y := nI (1 * 2 ^ o5)) (nb_shl (a := 1) (i := o5) (by omega)) ?_
                  have hor_35 : st ||| 1 * 2 ^ o5 < sN := or_lt hs (by omega) (by omega)
                  refine lv_ior hx hb dX11_layRound_98 ?_
                  refine xb_top (y := nI (st ||| 1 * 2 ^ o5)) (nb_or _ _) ?_
                  refine lv_imul hx hb dX11_layRound_99 ?_
                  refine xb_top (y := nI (14 * (st ||| 1 * 2 ^ o5))) (pk_mul 14 (st ||| 1 * 2 ^ o5)) ?_
                  refine lv_iload hx hb dX11_layRound_100 (lv_at hl 0 rfl) ?_
                  refine lv_iadd hx hb dX11_layRound_102 ?_
                  refine xb_top (y := nI ((14 * (st ||| 1 * 2 ^ o5)) + o5)) (nI_add (14 * (st ||| 1 * 2 ^ o5)) o5) ?_
                  refine va_iald hx hb hK hP 0 1 rfl rfl (vp_in_nI (by omega) (by omega)) dX11_layRound_103 ?_
                  refine xb_top (y := g5 ((14 * (st ||| 1 * 2 ^ o5)) + o5)) (by rw [nI_clamp (by omega)]) ?_
                  refine lv_topi (fun v_36 ev_36 => ?_)
                  refine lv_istore (lv' := [(5, .int v_36), (6, .int (nI o5)), (4, .int (nI k5)), (3, .int (nI st)), (2, .int (nI (sN - 1))), (0, .ref o), (1, .int (nI w))]) hx hb dX11_layRound_104 hl (by decide) rfl (fun ls hl => ?_)
                  refine lv_iinc (v := nI (o5 + 1)) (lv' := [(6, .int (nI (o5 + 1))), (5, .int v_36), (4, .int (nI k5)), (3, .int (nI st)), (2, .int (nI (sN - 1))), (0, .ref o), (1, .int (nI w))]) hx hb dX11_layRound_106 hl (k := 1) rfl (nI_1 o5) (by decide) rfl (fun ls hl => ?_)
                  refine lv_goto (tgt := 46) hx hb dX11_layRound_109 (by decide) ?_
                  exact kk_46 _ _ _ _ (by rw [← hn_46]; omega) ⟨(o5 + 1), v_36, rfl, hP.sub [2, 3, 0, 1] rfl, hD.sub [2, 3, 0, 1] (by decide) rfl, hS, lv_sub hl [0, 1, 2, 3, 4, 5, 6] rfl, (by omega), (if h9 : v_36 = 0 then Or.inl h9 else Or.inr (Or.inr ⟨o5, by omega, by omega, c_35, (ev_36 ▸ h9)⟩))⟩
      · have dc_25 : st = sN - 1 := (nI_eq (a := st) (b := sN - 1) (by omega) (by omega)).mp c_25
        refine lv_aload_n hx hb dX11_layRound_26 rfl (lv_at hl 3 rfl) ?_
        refine lv_iload hx hb dX11_layRound_27 (lv_at hl 0 rfl) ?_
        refine lv_iconst (v := 0) hx hb dX11_layRound_29 (by decide) ?_
        refine xCi (wr := [(m_more, .inl (cI, 229376, .inl g5)), (m_laidRow, .inl (cI, 200, .inl f_laidRow))]) (win := [(o, .inr (11, [.ref m_tape, .ref m_text, .int m_taped, .int m_size, .int m_faultKind, .int m_faultPlace, .int m_at, .int m_end, .int m_token, .int m_number, .long m_name, .ref m_words, .ref m_errands, .ref m_alikes, .ref m_law, .ref m_worth, .ref m_times, .ref m_eWord, .ref m_eAfter, .ref m_sound, .ref m_isLaw, .ref m_wName, .int (nI bk), .int m_rb, .ref m_follow, .ref m_lengths, .ref m_said, .int m_latest, .int m_talked, .int m_sum, .int m_doneSet, .int m_w, .ref m_more, .ref m_laidRow, .int (nI ld), .ref m_piece, .ref m_far, .ref m_steps, .ref m_ends, .ref m_hPlace, .ref m_hWhat, .ref m_hValue, .ref m_hTold, .ref m_hUntold, .int m_sounds, .int m_time, .ref m_ways, .ref m_goesOn, .ref m_boxMany, .ref m_boxLatest, .ref m_boxSum, .ref m_boxW, .ref m_boxDone, .ref m_boxSaid])), (m_follow, .inl (cI, 24, .inl f_follow))]) hP hD hS hA [0, 1] [2, 3] rfl rfl (by decide) (by decide) (va_runV (As := [.int (nI k5), .int 0]) (rest := []) ⟨hx, hb, hml, hown, hts⟩ (c_X11_isAfter l D cB cI cJ cS cZ cO H.size o k5 0 m_tape m_text m_taped m_size m_faultKind m_faultPlace m_at m_end m_token m_number m_name m_words m_errands m_alikes m_law m_worth m_times m_eWord m_eAfter m_sound m_isLaw m_wName (nI bk) m_rb m_follow m_lengths m_said m_latest m_talked m_sum m_doneSet m_w m_more m_laidRow (nI ld) m_piece m_far m_steps m_ends m_hPlace m_hWhat m_hValue m_hTold m_hUntold m_sounds m_time m_ways m_goesOn m_boxMany m_boxLatest m_boxSum m_boxW m_boxDone m_boxSaid f_follow (by first | assumption | omega | decide)) (cwV 2 hts gX11_layRound_X11_isAfter rfl rfl rfl (by decide +kernel) ⟨Nat.le_of_ble_eq_true rfl, Nat.le_of_ble_eq_true rfl⟩) (xPreV (win := [(o, .inr (11, [.ref m_tape, .ref m_text, .int m_taped, .int m_size, .int m_faultKind, .int m_faultPlace, .int m_at, .int m_end, .int m_token, .int m_number, .long m_name, .ref m_words, .ref m_errands, .ref m_alikes, .ref m_law, .ref m_worth, .ref m_times, .ref m_eWord, .ref m_eAfter, .ref m_sound, .ref m_isLaw, .ref m_wName, .int (nI bk), .int m_rb, .ref m_follow, .ref m_lengths, .ref m_said, .int m_latest, .int m_talked, .int m_sum, .int m_doneSet, .int m_w, .ref m_more, .ref m_laidRow, .int (nI ld), .ref m_piece, .ref m_far, .ref m_steps, .ref m_ends, .ref m_hPlace, .ref m_hWhat, .ref m_hValue, .ref m_hTold, .ref m_hUntold, .int m_sounds, .int m_time, .ref m_ways, .ref m_goesOn, .ref m_boxMany, .ref m_boxLatest, .ref m_boxSum, .ref m_boxW, .ref m_boxDone, .ref m_boxSaid])), (m_follow, .inl (cI, 24, .inl f_follow))]) hN hK hP hD [0, 1] (by decide) rfl 0 11 rfl rfl rfl) rfl rfl hl.1 rfl (lv_room (Nat.le_of_ble_eq_true rfl)) dX11_layRound_30 ⟨Nat.le_of_ble_eq_true rfl, Nat.le_of_ble_eq_true rfl⟩) (fun r0 w0 H locs hw hP hD hS => ?_)
        obtain ⟨rfl, rfl⟩ := hw
        have hP : va_P D vwCl [(m_more, .inl (cI, 229376, .inl g5)), (m_laidRow, .inl (cI, 200, .inl f_laidRow)), (o, .inr (11, [.ref m_tape, .ref m_text, .int m_taped, .int m_size, .int m_faultKind, .int m_faultPlace, .int m_at, .int m_end, .int m_token, .int m_number, .long m_name, .ref m_words, .ref m_errands, .ref m_alikes, .ref m_law, .ref m_worth, .ref m_times, .ref m_eWord, .ref m_eAfter, .ref m_sound, .ref m_isLaw, .ref m_wName, .int (nI bk), .int m_rb, .ref m_follow, .ref m_lengths, .ref m_said, .int m_latest, .int m_talked, .int m_sum, .int m_doneSet, .int m_w, .ref m_more, .ref m_laidRow, .int (nI ld), .ref m_piece, .ref m_far, .ref m_steps, .ref m_ends, .ref m_hPlace, .ref m_hWhat, .ref m_hValue, .ref m_hTold, .ref m_hUntold, .int m_sounds, .int m_time, .ref m_ways, .ref m_goesOn, .ref m_boxMany, .ref m_boxLatest, .ref m_boxSum, .ref m_boxW, .ref m_boxDone, .ref m_boxSaid])), (m_follow, .inl (cI, 24, .inl f_follow))] H := hP
        have hD : va_D A [(m_more, .inl (cI, 229376, .inl g5)), (m_laidRow, .inl (cI, 200, .inl f_laidRow)), (o, .inr (11, [.ref m_tape, .ref m_text, .int m_taped, .int m_size, .int m_faultKind, .int m_faultPlace, .int m_at, .int m_end, .int m_token, .int m_number, .long m_name, .ref m_words, .ref m_errands, .ref m_alikes, .ref m_law, .ref m_worth, .ref m_times, .ref m_eWord, .ref m_eAfter, .ref m_sound, .ref m_isLaw, .ref m_wName, .int (nI bk), .int m_rb, .ref m_follow, .ref m_lengths, .ref m_said, .int m_latest, .int m_talked, .int m_sum, .int m_doneSet, .int m_w, .ref m_more, .ref m_laidRow, .int (nI ld), .ref m_piece, .ref m_far, .ref m_steps, .ref m_ends, .ref m_hPlace, .ref m_hWhat, .ref m_hValue, .ref m_hTold, .ref m_hUntold, .int m_sounds, .int m_time, .ref m_ways, .ref m_goesOn, .ref m_boxMany, .ref m_boxLatest, .ref m_boxSum, .ref m_boxW, .ref m_boxDone, .ref m_boxSaid])), (m_follow, .inl (cI, 24, .inl f_follow))] := hD
        refine lv_if_eq (tgt := 40) hx hb dX11_layRound_33 (by decide) (fun c_37 => ?_) (fun c_37 => ?_)
        · refine lv_iconst (v := 0) hx hb dX11_layRound_40 (by decide) ?_
          refine lv_istore (lv' := [(5, .int 0), (4, .int (nI k5)), (3, .int (nI st)), (2, .int (nI (sN - 1))), (0, .ref o), (1, .int (nI w))]) hx hb dX11_layRound_41 hl (by decide) rfl (fun ls hl => ?_)
          refine lv_iconst (v := 0) hx hb dX11_layRound_43 (by decide) ?_
          refine lv_istore (lv' := [(6, .int 0), (5, .int 0), (4, .int (nI k5)), (3, .int (nI st)), (2, .int (nI (sN - 1))), (0, .ref o), (1, .int (nI w))]) hx hb dX11_layRound_44 hl (by decide) rfl (fun ls hl => ?_)
          refine xb_wh (fun (n9 : Nat) H locs ls => ∃ o5 : Nat, ∃ be : Int32, (w - o5) = n9 ∧ va_P D vwCl [(m_more, .inl (cI, 229376, .inl g5)), (m_laidRow, .inl (cI, 200, .inl f_laidRow)), (o, .inr (11, [.ref m_tape, .ref m_text, .int m_taped, .int m_size, .int m_faultKind, .int m_faultPlace, .int m_at, .int m_end, .int m_token, .int m_number, .long m_name, .ref m_words, .ref m_errands, .ref m_alikes, .ref m_law, .ref m_worth, .ref m_times, .ref m_eWord, .ref m_eAfter, .ref m_sound, .ref m_isLaw, .ref m_wName, .int (nI bk), .int m_rb, .ref m_follow, .ref m_lengths, .ref m_said, .int m_latest, .int m_talked, .int m_sum, .int m_doneSet, .int m_w, .ref m_more, .ref m_laidRow, .int (nI ld), .ref m_piece, .ref m_far, .ref m_steps, .ref m_ends, .ref m_hPlace, .ref m_hWhat, .ref m_hValue, .ref m_hTold, .ref m_hUntold, .int m_sounds, .int m_time, .ref m_ways, .ref m_goesOn, .ref m_boxMany, .ref m_boxLatest, .ref m_boxSum, .ref m_boxW, .ref m_boxDone, .ref m_boxSaid])), (m_follow, .inl (cI, 24, .inl f_follow))] H ∧ va_D A [(m_more, .inl (cI, 229376, .inl g5)), (m_laidRow, .inl (cI, 200, .inl f_laidRow)), (o, .inr (11, [.ref m_tape, .ref m_text, .int m_taped, .int m_size, .int m_faultKind, .int m_faultPlace, .int m_at, .int m_end, .int m_token, .int m_number, .long m_name, .ref m_words, .ref m_errands, .ref m_alikes, .ref m_law, .ref m_worth, .ref m_times, .ref m_eWord, .ref m_eAfter, .ref m_sound, .ref m_isLaw, .ref m_wName, .int (nI bk), .int m_rb, .ref m_follow, .ref m_lengths, .ref m_said, .int m_latest, .int m_talked, .int m_sum, .int m_doneSet, .int m_w, .ref m_more, .ref m_laidRow, .int (nI ld), .ref m_piece, .ref m_far, .ref m_steps, .ref m_ends, .ref m_hPlace, .ref m_hWhat, .ref m_hValue, .ref m_hTold, .ref m_hUntold, .int m_sounds, .int m_time, .ref m_ways, .ref m_goesOn, .ref m_boxMany, .ref m_boxLatest, .ref m_boxSum, .ref m_boxW, .ref m_boxDone, .ref m_boxSaid])), (m_follow, .inl (cI, 24, .inl f_follow))] ∧ va_S A s.heap H locs ∧ lv_has ls 7 [(6, .int (nI o5)), (5, .int be), (4, .int (nI k5)), (3, .int (nI st)), (2, .int (nI (sN - 1))), (0, .ref o), (1, .int (nI w))] ∧ (o5 ≤ w) ∧ (be = 0 ∨ st = sN - 1 ∨ ∃ o9, o9 < w ∧ st / 2 ^ o9 % 2 = 0 ∧ ¬ aft f_follow k5 o9 = 0 ∧ ¬ g5 (14 * (st ||| 1 * 2 ^ o9) + o9) = 0)) ⟨0, 0, rfl, hP, hD, hS, lv_sub hl [0, 1, 2, 3, 4, 5, 6] rfl, (Nat.zero_le _), (Or.inl rfl)⟩ (fun n9 H locs ls hI kk_46 => ?_)
          obtain ⟨o5, be, hn_46, hP, hD, hS, hl, hF_h_38, hF_h_39⟩ := hI
          refine lv_iload hx hb dX11_layRound_46 (lv_at hl 0 rfl) ?_
          refine lv_iload_n hx hb dX11_layRound_48 rfl (lv_at hl 6 rfl) ?_
          refine lv_icmp_ge (tgt := 112) hx hb dX11_layRound_49 (by decide) (fun c_40 => ?_) (fun c_40 => ?_)
          · have dc_40 : w ≤ o5 := (nI_leI (a := w) (b := o5) (by omega) (by omega)).mp c_40
            refine lv_aload_n hx hb dX11_layRound_112 rfl (lv_at hl 5 rfl) ?_
            refine va_get (D := D) (ci := 11) (v := .ref m_more) (C := RX11) (T := TX11) (N := 54) hx hb hts (by decide +kernel) hown hK hP 2 rfl rfl 32 (by decide) (hts (.fieldLink RX11 69 "LastLetterModel" "more" "[I") (by decide +kernel)) (fun _ h9 => h9) rfl dX11_layRound_113 ?_
            refine lv_bipush (v := 14) hx hb dX11_layRound_116 (by decide) ?_
            refine lv_iload_n hx hb dX11_layRound_118 rfl (lv_at hl 3 rfl) ?_
            refine lv_imul hx hb dX11_layRound_119 ?_
            refine xb_top (y := nI (14 * st)) (pk_mul 14 st) ?_
            refine lv_iload hx hb dX11_layRound_120 (lv_at hl 2 rfl) ?_
            refine lv_iadd hx hb dX11_layRound_122 ?_
            refine xb_top (y := nI ((14 * st) + k5)) (nI_add (14 * st) k5) ?_
            refine lv_iload hx hb dX11_layRound_123 (lv_at hl 1 rfl) ?_
            refine va_iast hx hb hK hP hD hS 0 1 rfl rfl (vp_in_nI (by omega) (by omega)) dX11_layRound_125 (fun H locs hP hD hS => ?_)
            have hP : va_P D vwCl [(m_more, .inl (cI, 229376, .inl (upd g5 (Int32.toNatClampNeg (nI ((14 * st) + k5))) be))), (m_laidRow, .inl (cI, 200, .inl f_laidRow)), (o, .inr (11, [.ref m_tape, .ref m_text, .int m_taped, .int m_size, .int m_faultKind, .int m_faultPlace, .int m_at, .int m_end, .int m_token, .int m_number, .long m_name, .ref m_words, .ref m_errands, .ref m_alikes, .ref m_law, .ref m_worth, .ref m_times, .ref m_eWord, .ref m_eAfter, .ref m_sound, .ref m_isLaw, .ref m_wName, .int (nI bk), .int m_rb, .ref m_follow, .ref m_lengths, .ref m_said, .int m_latest, .int m_talked, .int m_sum, .int m_doneSet, .int m_w, .ref m_more, .ref m_laidRow, .int (nI ld), .ref m_piece, .ref m_far, .ref m_steps, .ref m_ends, .ref m_hPlace, .ref m_hWhat, .ref m_hValue, .ref m_hTold, .ref m_hUntold, .int m_sounds, .int m_time, .ref m_ways, .ref m_goesOn, .ref m_boxMany, .ref m_boxLatest, .ref m_boxSum, .ref m_boxW, .ref m_boxDone, .ref m_boxSaid])), (m_follow, .inl (cI, 24, .inl f_follow))] H := hP
            have hD : va_D A [(m_more, .inl (cI, 229376, .inl (upd g5 (Int32.toNatClampNeg (nI ((14 * st) + k5))) be))), (m_laidRow, .inl (cI, 200, .inl f_laidRow)), (o, .inr (11, [.ref m_tape, .ref m_text, .int m_taped, .int m_size, .int m_faultKind, .int m_faultPlace, .int m_at, .int m_end, .int m_token, .int m_number, .long m_name, .ref m_words, .ref m_errands, .ref m_alikes, .ref m_law, .ref m_worth, .ref m_times, .ref m_eWord, .ref m_eAfter, .ref m_sound, .ref m_isLaw, .ref m_wName, .int (nI bk), .int m_rb, .ref m_follow, .ref m_lengths, .ref m_said, .int m_latest, .int m_talked, .int m_sum, .int m_doneSet, .int m_w, .ref m_more, .ref m_laidRow, .int (nI ld), .ref m_piece, .ref m_far, .ref m_steps, .ref m_ends, .ref m_hPlace, .ref m_hWhat, .ref m_hValue, .ref m_hTold, .ref m_hUntold, .int m_sounds, .int m_time, .ref m_ways, .ref m_goesOn, .ref m_boxMany, .ref m_boxLatest, .ref m_boxSum, .ref m_boxW, .ref m_boxDone, .ref m_boxSaid])), (m_follow, .inl (cI, 24, .inl f_follow))] := hD
            generalize eg_41 : upd g5 (Int32.toNatClampNeg (nI ((14 * st) + k5))) be = g_41 at hP hD
            refine lv_iinc (v := nI (k5 + 1)) (lv' := [(4, .int (nI (k5 + 1))), (6, .int (nI o5)), (5, .int be), (3, .int (nI st)), (2, .int (nI (sN - 1))), (0, .ref o), (1, .int (nI w))]) hx hb dX11_layRound_126 hl (k := 2) rfl (nI_1 k5) (by decide) rfl (fun ls hl => ?_)
            refine lv_goto (tgt := 15) hx hb dX11_layRound_129 (by decide) ?_
            obtain ⟨hu1, hu2⟩ := Tb_up R2_loc hw4 (by omega) (by omega) hF_h_22 hF_h_23 eg_41 (R2_new hw4 (by omega) (by omega) hF_h_39 eg_41)
            exact kk_15 _ _ _ _ (by rw [← hn_15]; omega) ⟨(k5 + 1), g_41, rfl, hP.sub [2, 3, 0, 1] rfl, hD.sub [2, 3, 0, 1] (by decide) rfl, hS, lv_sub hl [0, 3, 4, 5, 6] rfl, (by omega), hu1, hu2⟩
          · have dc_40 : ¬ w ≤ o5 := fun h => c_40 ((nI_leI (a := w) (b := o5) (by omega) (by omega)).mpr h)
            refine lv_iload hx hb dX11_layRound_52 (lv_at hl 1 rfl) ?_
            refine lv_if_ne (tgt := 112) hx hb dX11_layRound_54 (by decide) (fun c_42 => ?_) (fun c_42 => ?_)
            · refine lv_aload_n hx hb dX11_layRound_112 rfl (lv_at hl 5 rfl) ?_
              refine va_get (D := D) (ci := 11) (v := .ref m_more) (C := RX11) (T := TX11) (N := 54) hx hb hts (by decide +kernel) hown hK hP 2 rfl rfl 32 (by decide) (hts (.fieldLink RX11 69 "LastLetterModel" "more" "[I") (by decide +kernel)) (fun _ h9 => h9) rfl dX11_layRound_113 ?_
              refine lv_bipush (v := 14) hx hb dX11_layRound_116 (by decide) ?_
              refine lv_iload_n hx hb dX11_layRound_118 rfl (lv_at hl 3 rfl) ?_
              refine lv_imul hx hb dX11_layRound_119 ?_
              refine xb_top (y := nI (14 * st)) (pk_mul 14 st) ?_
              refine lv_iload hx hb dX11_layRound_120 (lv_at hl 2 rfl) ?_
              refine lv_iadd hx hb dX11_layRound_122 ?_
              refine xb_top (y := nI ((14 * st) + k5)) (nI_add (14 * st) k5) ?_
              refine lv_iload hx hb dX11_layRound_123 (lv_at hl 1 rfl) ?_
              refine va_iast hx hb hK hP hD hS 0 1 rfl rfl (vp_in_nI (by omega) (by omega)) dX11_layRound_125 (fun H locs hP hD hS => ?_)
              have hP : va_P D vwCl [(m_more, .inl (cI, 229376, .inl (upd g5 (Int32.toNatClampNeg (nI ((14 * st) + k5))) be))), (m_laidRow, .inl (cI, 200, .inl f_laidRow)), (o, .inr (11, [.ref m_tape, .ref m_text, .int m_taped, .int m_size, .int m_faultKind, .int m_faultPlace, .int m_at, .int m_end, .int m_token, .int m_number, .long m_name, .ref m_words, .ref m_errands, .ref m_alikes, .ref m_law, .ref m_worth, .ref m_times, .ref m_eWord, .ref m_eAfter, .ref m_sound, .ref m_isLaw, .ref m_wName, .int (nI bk), .int m_rb, .ref m_follow, .ref m_lengths, .ref m_said, .int m_latest, .int m_talked, .int m_sum, .int m_doneSet, .int m_w, .ref m_more, .ref m_laidRow, .int (nI ld), .ref m_piece, .ref m_far, .ref m_steps, .ref m_ends, .ref m_hPlace, .ref m_hWhat, .ref m_hValue, .ref m_hTold, .ref m_hUntold, .int m_sounds, .int m_time, .ref m_ways, .ref m_goesOn, .ref m_boxMany, .ref m_boxLatest, .ref m_boxSum, .ref m_boxW, .ref m_boxDone, .ref m_boxSaid])), (m_follow, .inl (cI, 24, .inl f_follow))] H := hP
              have hD : va_D A [(m_more, .inl (cI, 229376, .inl (upd g5 (Int32.toNatClampNeg (nI ((14 * st) + k5))) be))), (m_laidRow, .inl (cI, 200, .inl f_laidRow)), (o, .inr (11, [.ref m_tape, .ref m_text, .int m_taped, .int m_size, .int m_faultKind, .int m_faultPlace, .int m_at, .int m_end, .int m_token, .int m_number, .long m_name, .ref m_words, .ref m_errands, .ref m_alikes, .ref m_law, .ref m_worth, .ref m_times, .ref m_eWord, .ref m_eAfter, .ref m_sound, .ref m_isLaw, .ref m_wName, .int (nI bk), .int m_rb, .ref m_follow, .ref m_lengths, .ref m_said, .int m_latest, .int m_talked, .int m_sum, .int m_doneSet, .int m_w, .ref m_more, .ref m_laidRow, .int (nI ld), .ref m_piece, .ref m_far, .ref m_steps, .ref m_ends, .ref m_hPlace, .ref m_hWhat, .ref m_hValue, .ref m_hTold, .ref m_hUntold, .int m_sounds, .int m_time, .ref m_ways, .ref m_goesOn, .ref m_boxMany, .ref m_boxLatest, .ref m_boxSum, .ref m_boxW, .ref m_boxDone, .ref m_boxSaid])), (m_follow, .inl (cI, 24, .inl f_follow))] := hD
              generalize eg_43 : upd g5 (Int32.toNatClampNeg (nI ((14 * st) + k5))) be = g_43 at hP hD
              refine lv_iinc (v := nI (k5 + 1)) (lv' := [(4, .int (nI (k5 + 1))), (6, .int (nI o5)), (5, .int be), (3, .int (nI st)), (2, .int (nI (sN - 1))), (0, .ref o), (1, .int (nI w))]) hx hb dX11_layRound_126 hl (k := 2) rfl (nI_1 k5) (by decide) rfl (fun ls hl => ?_)
              refine lv_goto (tgt := 15) hx hb dX11_layRound_129 (by decide) ?_
              obtain ⟨hu1, hu2⟩ := Tb_up R2_loc hw4 (by omega) (by omega) hF_h_22 hF_h_23 eg_43 (R2_new hw4 (by omega) (by omega) hF_h_39 eg_43)
              exact kk_15 _ _ _ _ (by rw [← hn_15]; omega) ⟨(k5 + 1), g_43, rfl, hP.sub [2, 3, 0, 1] rfl, hD.sub [2, 3, 0, 1] (by decide) rfl, hS, lv_sub hl [0, 3, 4, 5, 6] rfl, (by omega), hu1, hu2⟩
            · refine lv_iload_n hx hb dX11_layRound_57 rfl (lv_at hl 3 rfl) ?_
              refine lv_iload hx hb dX11_layRound_58 (lv_at hl 2 rfl) ?_
              refine lv_ishr hx hb dX11_layRound_60 ?_
              refine xb_top (y := nI (st / 2 ^ k5)) (nb_shr (a := st) (i := k5) (by omega) (by omega)) ?_
              refine lv_iconst (v := 1) hx hb dX11_layRound_61 (by decide) ?_
              refine lv_iand hx hb dX11_layRound_62 ?_
              refine xb_top (y := nI (st / 2 ^ k5 % 2)) ((nb_and _ 1).trans (by rw [Nat.and_one_is_mod])) ?_
              refine lv_iconst (v := 1) hx hb dX11_layRound_63 (by decide) ?_
              refine lv_icmp_ne (tgt := 112) hx hb dX11_layRound_64 (by decide) (fun c_44 => ?_) (fun c_44 => ?_)
              · have dc_44 : ¬ (st / 2 ^ k5 % 2) = 1 := fun h => c_44 ((nI_eq (a := st / 2 ^ k5 % 2) (b := 1) (by omega) (by omega)).mpr h)
                refine lv_aload_n hx hb dX11_layRound_112 rfl (lv_at hl 5 rfl) ?_
                refine va_get (D := D) (ci := 11) (v := .ref m_more) (C := RX11) (T := TX11) (N := 54) hx hb hts (by decide +kernel) hown hK hP 2 rfl rfl 32 (by decide) (hts (.fieldLink RX11 69 "LastLetterModel" "more" "[I") (by decide +kernel)) (fun _ h9 => h9) rfl dX11_layRound_113 ?_
                refine lv_bipush (v := 14) hx hb dX11_layRound_116 (by decide) ?_
                refine lv_iload_n hx hb dX11_layRound_118 rfl (lv_at hl 3 rfl) ?_
                refine lv_imul hx hb dX11_layRound_119 ?_
                refine xb_top (y := nI (14 * st)) (pk_mul 14 st) ?_
                refine lv_iload hx hb dX11_layRound_120 (lv_at hl 2 rfl) ?_
                refine lv_iadd hx hb dX11_layRound_122 ?_
                refine xb_top (y := nI ((14 * st) + k5)) (nI_add (14 * st) k5) ?_
                refine lv_iload hx hb dX11_layRound_123 (lv_at hl 1 rfl) ?_
                refine va_iast hx hb hK hP hD hS 0 1 rfl rfl (vp_in_nI (by omega) (by omega)) dX11_layRound_125 (fun H locs hP hD hS => ?_)
                have hP : va_P D vwCl [(m_more, .inl (cI, 229376, .inl (upd g5 (Int32.toNatClampNeg (nI ((14 * st) + k5))) be))), (m_laidRow, .inl (cI, 200, .inl f_laidRow)), (o, .inr (11, [.ref m_tape, .ref m_text, .int m_taped, .int m_size, .int m_faultKind, .int m_faultPlace, .int m_at, .int m_end, .int m_token, .int m_number, .long m_name, .ref m_words, .ref m_errands, .ref m_alikes, .ref m_law, .ref m_worth, .ref m_times, .ref m_eWord, .ref m_eAfter, .ref m_sound, .ref m_isLaw, .ref m_wName, .int (nI bk), .int m_rb, .ref m_follow, .ref m_lengths, .ref m_said, .int m_latest, .int m_talked, .int m_sum, .int m_doneSet, .int m_w, .ref m_more, .ref m_laidRow, .int (nI ld), .ref m_piece, .ref m_far, .ref m_steps, .ref m_ends, .ref m_hPlace, .ref m_hWhat, .ref m_hValue, .ref m_hTold, .ref m_hUntold, .int m_sounds, .int m_time, .ref m_ways, .ref m_goesOn, .ref m_boxMany, .ref m_boxLatest, .ref m_boxSum, .ref m_boxW, .ref m_boxDone, .ref m_boxSaid])), (m_follow, .inl (cI, 24, .inl f_follow))] H := hP
                have hD : va_D A [(m_more, .inl (cI, 229376, .inl (upd g5 (Int32.toNatClampNeg (nI ((14 * st) + k5))) be))), (m_laidRow, .inl (cI, 200, .inl f_laidRow)), (o, .inr (11, [.ref m_tape, .ref m_text, .int m_taped, .int m_size, .int m_faultKind, .int m_faultPlace, .int m_at, .int m_end, .int m_token, .int m_number, .long m_name, .ref m_words, .ref m_errands, .ref m_alikes, .ref m_law, .ref m_worth, .ref m_times, .ref m_eWord, .ref m_eAfter, .ref m_sound, .ref m_isLaw, .ref m_wName, .int (nI bk), .int m_rb, .ref m_follow, .ref m_lengths, .ref m_said, .int m_latest, .int m_talked, .int m_sum, .int m_doneSet, .int m_w, .ref m_more, .ref m_laidRow, .int (nI ld), .ref m_piece, .ref m_far, .ref m_steps, .ref m_ends, .ref m_hPlace, .ref m_hWhat, .ref m_hValue, .ref m_hTold, .ref m_hUntold, .int m_sounds, .int m_time, .ref m_ways, .ref m_goesOn, .ref m_boxMany, .ref m_boxLatest, .ref m_boxSum, .ref m_boxW, .ref m_boxDone, .ref m_boxSaid])), (m_follow, .inl (cI, 24, .inl f_follow))] := hD
                generalize eg_45 : upd g5 (Int32.toNatClampNeg (nI ((14 * st) + k5))) be = g_45 at hP hD
                refine lv_iinc (v := nI (k5 + 1)) (lv' := [(4, .int (nI (k5 + 1))), (6, .int (nI o5)), (5, .int be), (3, .int (nI st)), (2, .int (nI (sN - 1))), (0, .ref o), (1, .int (nI w))]) hx hb dX11_layRound_126 hl (k := 2) rfl (nI_1 k5) (by decide) rfl (fun ls hl => ?_)
                refine lv_goto (tgt := 15) hx hb dX11_layRound_129 (by decide) ?_
                obtain ⟨hu1, hu2⟩ := Tb_up R2_loc hw4 (by omega) (by omega) hF_h_22 hF_h_23 eg_45 (R2_new hw4 (by omega) (by omega) hF_h_39 eg_45)
                exact kk_15 _ _ _ _ (by rw [← hn_15]; omega) ⟨(k5 + 1), g_45, rfl, hP.sub [2, 3, 0, 1] rfl, hD.sub [2, 3, 0, 1] (by decide) rfl, hS, lv_sub hl [0, 3, 4, 5, 6] rfl, (by omega), hu1, hu2⟩
              · have dc_44 : st / 2 ^ k5 % 2 = 1 := (nI_eq (a := st / 2 ^ k5 % 2) (b := 1) (by omega) (by omega)).mp c_44
                refine lv_iload_n hx hb dX11_layRound_67 rfl (lv_at hl 3 rfl) ?_
                refine lv_iload hx hb dX11_layRound_68 (lv_at hl 0 rfl) ?_
                refine lv_ishr hx hb dX11_layRound_70 ?_
                refine xb_top (y := nI (st / 2 ^ o5)) (nb_shr (a := st) (i := o5) (by omega) (by omega)) ?_
                refine lv_iconst (v := 1) hx hb dX11_layRound_71 (by decide) ?_
                refine lv_iand hx hb dX11_layRound_72 ?_
                refine xb_top (y := nI (st / 2 ^ o5 % 2)) ((nb_and _ 1).trans (by rw [Nat.and_one_is_mod])) ?_
                refine lv_if_ne (tgt := 106) hx hb dX11_layRound_73 (by decide) (fun c_46 => ?_) (fun c_46 => ?_)
                · have dc_46 : ¬ (st / 2 ^ o5 % 2) = 0 := fun h => c_46 ((nI_eq (a := st / 2 ^ o5 % 2) (b := 0) (by omega) (by omega)).mpr h)
                  refine lv_iinc (v := nI (o5 + 1)) (lv' := [(6, .int (nI (o5 + 1))), (5, .int be), (4, .int (nI k5)), (3, .int (nI st)), (2, .int (nI (sN - 1))), (0, .ref o), (1, .int (nI w))]) hx hb dX11_layRound_106 hl (k := 0) rfl (nI_1 o5) (by decide) rfl (fun ls hl => ?_)
                  refine lv_goto (tgt := 46) hx hb dX11_layRound_109 (by decide) ?_
                  exact kk_46 _ _ _ _ (by rw [← hn_46]; omega) ⟨(o5 + 1), be, rfl, hP, hD, hS, lv_sub hl [0, 1, 2, 3, 4, 5, 6] rfl, (by omega), hF_h_39⟩
                · have dc_46 : st / 2 ^ o5 % 2 = 0 := (nI_eq (a := st / 2 ^ o5 % 2) (b := 0) (by omega) (by omega)).mp c_46
                  refine lv_aload_n hx hb dX11_layRound_76 rfl (lv_at hl 5 rfl) ?_
                  refine lv_iload hx hb dX11_layRound_77 (lv_at hl 2 rfl) ?_
                  refine lv_iload hx hb dX11_layRound_79 (lv_at hl 0 rfl) ?_
                  refine xCi (wr := [(m_more, .inl (cI, 229376, .inl g5)), (m_laidRow, .inl (cI, 200, .inl f_laidRow))]) (win := [(o, .inr (11, [.ref m_tape, .ref m_text, .int m_taped, .int m_size, .int m_faultKind, .int m_faultPlace, .int m_at, .int m_end, .int m_token, .int m_number, .long m_name, .ref m_words, .ref m_errands, .ref m_alikes, .ref m_law, .ref m_worth, .ref m_times, .ref m_eWord, .ref m_eAfter, .ref m_sound, .ref m_isLaw, .ref m_wName, .int (nI bk), .int m_rb, .ref m_follow, .ref m_lengths, .ref m_said, .int m_latest, .int m_talked, .int m_sum, .int m_doneSet, .int m_w, .ref m_more, .ref m_laidRow, .int (nI ld), .ref m_piece, .ref m_far, .ref m_steps, .ref m_ends, .ref m_hPlace, .ref m_hWhat, .ref m_hValue, .ref m_hTold, .ref m_hUntold, .int m_sounds, .int m_time, .ref m_ways, .ref m_goesOn, .ref m_boxMany, .ref m_boxLatest, .ref m_boxSum, .ref m_boxW, .ref m_boxDone, .ref m_boxSaid])), (m_follow, .inl (cI, 24, .inl f_follow))]) hP hD hS hA [2, 3] [0, 1] rfl rfl (by decide) (by decide) (va_runV (As := [.int (nI k5), .int (nI o5)]) (rest := []) ⟨hx, hb, hml, hown, hts⟩ (c_X11_isAfter l D cB cI cJ cS cZ cO H.size o k5 o5 m_tape m_text m_taped m_size m_faultKind m_faultPlace m_at m_end m_token m_number m_name m_words m_errands m_alikes m_law m_worth m_times m_eWord m_eAfter m_sound m_isLaw m_wName (nI bk) m_rb m_follow m_lengths m_said m_latest m_talked m_sum m_doneSet m_w m_more m_laidRow (nI ld) m_piece m_far m_steps m_ends m_hPlace m_hWhat m_hValue m_hTold m_hUntold m_sounds m_time m_ways m_goesOn m_boxMany m_boxLatest m_boxSum m_boxW m_boxDone m_boxSaid f_follow (by first | assumption | omega | decide)) (cwV 2 hts gX11_layRound_X11_isAfter rfl rfl rfl (by decide +kernel) ⟨Nat.le_of_ble_eq_true rfl, Nat.le_of_ble_eq_true rfl⟩) (xPreV (win := [(o, .inr (11, [.ref m_tape, .ref m_text, .int m_taped, .int m_size, .int m_faultKind, .int m_faultPlace, .int m_at, .int m_end, .int m_token, .int m_number, .long m_name, .ref m_words, .ref m_errands, .ref m_alikes, .ref m_law, .ref m_worth, .ref m_times, .ref m_eWord, .ref m_eAfter, .ref m_sound, .ref m_isLaw, .ref m_wName, .int (nI bk), .int m_rb, .ref m_follow, .ref m_lengths, .ref m_said, .int m_latest, .int m_talked, .int m_sum, .int m_doneSet, .int m_w, .ref m_more, .ref m_laidRow, .int (nI ld), .ref m_piece, .ref m_far, .ref m_steps, .ref m_ends, .ref m_hPlace, .ref m_hWhat, .ref m_hValue, .ref m_hTold, .ref m_hUntold, .int m_sounds, .int m_time, .ref m_ways, .ref m_goesOn, .ref m_boxMany, .ref m_boxLatest, .ref m_boxSum, .ref m_boxW, .ref m_boxDone, .ref m_boxSaid])), (m_follow, .inl (cI, 24, .inl f_follow))]) hN hK hP hD [2, 3] (by decide) rfl 2 11 rfl rfl rfl) rfl rfl hl.1 rfl (lv_room (Nat.le_of_ble_eq_true rfl)) dX11_layRound_81 ⟨Nat.le_of_ble_eq_true rfl, Nat.le_of_ble_eq_true rfl⟩) (fun r0 w0 H locs hw hP hD hS => ?_)
                  obtain ⟨rfl, rfl⟩ := hw
                  have hP : va_P D vwCl [(m_more, .inl (cI, 229376, .inl g5)), (m_laidRow, .inl (cI, 200, .inl f_laidRow)), (o, .inr (11, [.ref m_tape, .ref m_text, .int m_taped, .int m_size, .int m_faultKind, .int m_faultPlace, .int m_at, .int m_end, .int m_token, .int m_number, .long m_name, .ref m_words, .ref m_errands, .ref m_alikes, .ref m_law, .ref m_worth, .ref m_times, .ref m_eWord, .ref m_eAfter, .ref m_sound, .ref m_isLaw, .ref m_wName, .int (nI bk), .int m_rb, .ref m_follow, .ref m_lengths, .ref m_said, .int m_latest, .int m_talked, .int m_sum, .int m_doneSet, .int m_w, .ref m_more, .ref m_laidRow, .int (nI ld), .ref m_piece, .ref m_far, .ref m_steps, .ref m_ends, .ref m_hPlace, .ref m_hWhat, .ref m_hValue, .ref m_hTold, .ref m_hUntold, .int m_sounds, .int m_time, .ref m_ways, .ref m_goesOn, .ref m_boxMany, .ref m_boxLatest, .ref m_boxSum, .ref m_boxW, .ref m_boxDone, .ref m_boxSaid])), (m_follow, .inl (cI, 24, .inl f_follow))] H := hP
                  have hD : va_D A [(m_more, .inl (cI, 229376, .inl g5)), (m_laidRow, .inl (cI, 200, .inl f_laidRow)), (o, .inr (11, [.ref m_tape, .ref m_text, .int m_taped, .int m_size, .int m_faultKind, .int m_faultPlace, .int m_at, .int m_end, .int m_token, .int m_number, .long m_name, .ref m_words, .ref m_errands, .ref m_alikes, .ref m_law, .ref m_worth, .ref m_times, .ref m_eWord, .ref m_eAfter, .ref m_sound, .ref m_isLaw, .ref m_wName, .int (nI bk), .int m_rb, .ref m_follow, .ref m_lengths, .ref m_said, .int m_latest, .int m_talked, .int m_sum, .int m_doneSet, .int m_w, .ref m_more, .ref m_laidRow, .int (nI ld), .ref m_piece, .ref m_far, .ref m_steps, .ref m_ends, .ref m_hPlace, .ref m_hWhat, .ref m_hValue, .ref m_hTold, .ref m_hUntold, .int m_sounds, .int m_time, .ref m_ways, .ref m_goesOn, .ref m_boxMany, .ref m_boxLatest, .ref m_boxSum, .ref m_boxW, .ref m_boxDone, .ref m_boxSaid])), (m_follow, .inl (cI, 24, .inl f_follow))] := hD
                  refine lv_if_eq (tgt := 106) hx hb dX11_layRound_84 (by decide) (fun c_47 => ?_) (fun c_47 => ?_)
                  · refine lv_iinc (v := nI (o5 + 1)) (lv' := [(6, .int (nI (o5 + 1))), (5, .int be), (4, .int (nI k5)), (3, .int (nI st)), (2, .int (nI (sN - 1))), (0, .ref o), (1, .int (nI w))]) hx hb dX11_layRound_106 hl (k := 0) rfl (nI_1 o5) (by decide) rfl (fun ls hl => ?_)
                    refine lv_goto (tgt := 46) hx hb dX11_layRound_109 (by decide) ?_
                    exact kk_46 _ _ _ _ (by rw [← hn_46]; omega) ⟨(o5 + 1), be, rfl, hP, hD, hS, lv_sub hl [0, 1, 2, 3, 4, 5, 6] rfl, (by omega), hF_h_39⟩
                  · refine lv_aload_n hx hb dX11_layRound_87 rfl (lv_at hl 5 rfl) ?_
                    refine va_get (D := D) (ci := 11) (v := .ref m_more) (C := RX11) (T := TX11) (N := 54) hx hb hts (by decide +kernel) hown hK hP 2 rfl rfl 32 (by decide) (hts (.fieldLink RX11 69 "LastLetterModel" "more" "[I") (by decide +kernel)) (fun _ h9 => h9) rfl dX11_layRound_88 ?_
                    refine lv_bipush (v := 14) hx hb dX11_layRound_91 (by decide) ?_
                    refine lv_iload_n hx hb dX11_layRound_93 rfl (lv_at hl 3 rfl) ?_
                    refine lv_iconst (v := 1) hx hb dX11_layRound_94 (by decide) ?_
                    refine lv_iload hx hb dX11_layRound_95 (lv_at hl 0 rfl) ?_
                    refine lv_ishl hx hb dX11_layRound_97 ?_
                    refine xb_top (y := nI (1 * 2 ^ o5)) (nb_shl (a := 1) (i := o5) (by omega)) ?_
                    have hor_47 : st ||| 1 * 2 ^ o5 < sN := or_lt hs (by omega) (by omega)
                    refine lv_ior hx hb dX11_layRound_98 ?_
                    refine xb_top (y := nI (st ||| 1 * 2 ^ o5)) (nb_or _ _) ?_
                    refine lv_imul hx hb dX11_layRound_99 ?_
                    refine xb_top (y := nI (14 * (st ||| 1 * 2 ^ o5))) (pk_mul 14 (st ||| 1 * 2 ^ o5)) ?_
                    refine lv_iload hx hb dX11_layRound_100 (lv_at hl 0 rfl) ?_
                    refine lv_iadd hx hb dX11_layRound_102 ?_
                    refine xb_top (y := nI ((14 * (st ||| 1 * 2 ^ o5)) + o5)) (nI_add (14 * (st ||| 1 * 2 ^ o5)) o5) ?_
                    refine va_iald hx hb hK hP 0 1 rfl rfl (vp_in_nI (by omega) (by omega)) dX11_layRound_103 ?_
                    refine xb_top (y := g5 ((14 * (st ||| 1 * 2 ^ o5)) + o5)) (by rw [nI_clamp (by omega)]) ?_
                    refine lv_topi (fun v_48 ev_48 => ?_)
                    refine lv_istore (lv' := [(5, .int v_48), (6, .int (nI o5)), (4, .int (nI k5)), (3, .int (nI st)), (2, .int (nI (sN - 1))), (0, .ref o), (1, .int (nI w))]) hx hb dX11_layRound_104 hl (by decide) rfl (fun ls hl => ?_)
                    refine lv_iinc (v := nI (o5 + 1)) (lv' := [(6, .int (nI (o5 + 1))), (5, .int v_48), (4, .int (nI k5)), (3, .int (nI st)), (2, .int (nI (sN - 1))), (0, .ref o), (1, .int (nI w))]) hx hb dX11_layRound_106 hl (k := 1) rfl (nI_1 o5) (by decide) rfl (fun ls hl => ?_)
                    refine lv_goto (tgt := 46) hx hb dX11_layRound_109 (by decide) ?_
                    exact kk_46 _ _ _ _ (by rw [← hn_46]; omega) ⟨(o5 + 1), v_48, rfl, hP, hD, hS, lv_sub hl [0, 1, 2, 3, 4, 5, 6] rfl, (by omega), (if h9 : v_48 = 0 then Or.inl h9 else Or.inr (Or.inr ⟨o5, by omega, by omega, c_47, (ev_48 ▸ h9)⟩))⟩
        · refine lv_iconst (v := 1) hx hb dX11_layRound_36 (by decide) ?_
          refine lv_goto (tgt := 41) hx hb dX11_layRound_37 (by decide) ?_
          refine lv_istore (lv' := [(5, .int 1), (4, .int (nI k5)), (3, .int (nI st)), (2, .int (nI (sN - 1))), (0, .ref o), (1, .int (nI w))]) hx hb dX11_layRound_41 hl (by decide) rfl (fun ls hl => ?_)
          refine lv_iconst (v := 0) hx hb dX11_layRound_43 (by decide) ?_
          refine lv_istore (lv' := [(6, .int 0), (5, .int 1), (4, .int (nI k5)), (3, .int (nI st)), (2, .int (nI (sN - 1))), (0, .ref o), (1, .int (nI w))]) hx hb dX11_layRound_44 hl (by decide) rfl (fun ls hl => ?_)
          refine xb_wh (fun (n9 : Nat) H locs ls => ∃ o5 : Nat, ∃ be : Int32, (w - o5) = n9 ∧ va_P D vwCl [(m_more, .inl (cI, 229376, .inl g5)), (m_laidRow, .inl (cI, 200, .inl f_laidRow)), (o, .inr (11, [.ref m_tape, .ref m_text, .int m_taped, .int m_size, .int m_faultKind, .int m_faultPlace, .int m_at, .int m_end, .int m_token, .int m_number, .long m_name, .ref m_words, .ref m_errands, .ref m_alikes, .ref m_law, .ref m_worth, .ref m_times, .ref m_eWord, .ref m_eAfter, .ref m_sound, .ref m_isLaw, .ref m_wName, .int (nI bk), .int m_rb, .ref m_follow, .ref m_lengths, .ref m_said, .int m_latest, .int m_talked, .int m_sum, .int m_doneSet, .int m_w, .ref m_more, .ref m_laidRow, .int (nI ld), .ref m_piece, .ref m_far, .ref m_steps, .ref m_ends, .ref m_hPlace, .ref m_hWhat, .ref m_hValue, .ref m_hTold, .ref m_hUntold, .int m_sounds, .int m_time, .ref m_ways, .ref m_goesOn, .ref m_boxMany, .ref m_boxLatest, .ref m_boxSum, .ref m_boxW, .ref m_boxDone, .ref m_boxSaid])), (m_follow, .inl (cI, 24, .inl f_follow))] H ∧ va_D A [(m_more, .inl (cI, 229376, .inl g5)), (m_laidRow, .inl (cI, 200, .inl f_laidRow)), (o, .inr (11, [.ref m_tape, .ref m_text, .int m_taped, .int m_size, .int m_faultKind, .int m_faultPlace, .int m_at, .int m_end, .int m_token, .int m_number, .long m_name, .ref m_words, .ref m_errands, .ref m_alikes, .ref m_law, .ref m_worth, .ref m_times, .ref m_eWord, .ref m_eAfter, .ref m_sound, .ref m_isLaw, .ref m_wName, .int (nI bk), .int m_rb, .ref m_follow, .ref m_lengths, .ref m_said, .int m_latest, .int m_talked, .int m_sum, .int m_doneSet, .int m_w, .ref m_more, .ref m_laidRow, .int (nI ld), .ref m_piece, .ref m_far, .ref m_steps, .ref m_ends, .ref m_hPlace, .ref m_hWhat, .ref m_hValue, .ref m_hTold, .ref m_hUntold, .int m_sounds, .int m_time, .ref m_ways, .ref m_goesOn, .ref m_boxMany, .ref m_boxLatest, .ref m_boxSum, .ref m_boxW, .ref m_boxDone, .ref m_boxSaid])), (m_follow, .inl (cI, 24, .inl f_follow))] ∧ va_S A s.heap H locs ∧ lv_has ls 7 [(6, .int (nI o5)), (5, .int be), (4, .int (nI k5)), (3, .int (nI st)), (2, .int (nI (sN - 1))), (0, .ref o), (1, .int (nI w))] ∧ (o5 ≤ w) ∧ (be = 0 ∨ st = sN - 1 ∨ ∃ o9, o9 < w ∧ st / 2 ^ o9 % 2 = 0 ∧ ¬ aft f_follow k5 o9 = 0 ∧ ¬ g5 (14 * (st ||| 1 * 2 ^ o9) + o9) = 0)) ⟨0, 1, rfl, hP, hD, hS, lv_sub hl [0, 1, 2, 3, 4, 5, 6] rfl, (Nat.zero_le _), (Or.inr (Or.inl (by omega)))⟩ (fun n9 H locs ls hI kk_46 => ?_)
          obtain ⟨o5, be, hn_46, hP, hD, hS, hl, hF_h_49, hF_h_50⟩ := hI
          refine lv_iload hx hb dX11_layRound_46 (lv_at hl 0 rfl) ?_
          refine lv_iload_n hx hb dX11_layRound_48 rfl (lv_at hl 6 rfl) ?_
          refine lv_icmp_ge (tgt := 112) hx hb dX11_layRound_49 (by decide) (fun c_51 => ?_) (fun c_51 => ?_)
          · have dc_51 : w ≤ o5 := (nI_leI (a := w) (b := o5) (by omega) (by omega)).mp c_51
            refine lv_aload_n hx hb dX11_layRound_112 rfl (lv_at hl 5 rfl) ?_
            refine va_get (D := D) (ci := 11) (v := .ref m_more) (C := RX11) (T := TX11) (N := 54) hx hb hts (by decide +kernel) hown hK hP 2 rfl rfl 32 (by decide) (hts (.fieldLink RX11 69 "LastLetterModel" "more" "[I") (by decide +kernel)) (fun _ h9 => h9) rfl dX11_layRound_113 ?_
            refine lv_bipush (v := 14) hx hb dX11_layRound_116 (by decide) ?_
            refine lv_iload_n hx hb dX11_layRound_118 rfl (lv_at hl 3 rfl) ?_
            refine lv_imul hx hb dX11_layRound_119 ?_
            refine xb_top (y := nI (14 * st)) (pk_mul 14 st) ?_
            refine lv_iload hx hb dX11_layRound_120 (lv_at hl 2 rfl) ?_
            refine lv_iadd hx hb dX11_layRound_122 ?_
            refine xb_top (y := nI ((14 * st) + k5)) (nI_add (14 * st) k5) ?_
            refine lv_iload hx hb dX11_layRound_123 (lv_at hl 1 rfl) ?_
            refine va_iast hx hb hK hP hD hS 0 1 rfl rfl (vp_in_nI (by omega) (by omega)) dX11_layRound_125 (fun H locs hP hD hS => ?_)
            have hP : va_P D vwCl [(m_more, .inl (cI, 229376, .inl (upd g5 (Int32.toNatClampNeg (nI ((14 * st) + k5))) be))), (m_laidRow, .inl (cI, 200, .inl f_laidRow)), (o, .inr (11, [.ref m_tape, .ref m_text, .int m_taped, .int m_size, .int m_faultKind, .int m_faultPlace, .int m_at, .int m_end, .int m_token, .int m_number, .long m_name, .ref m_words, .ref m_errands, .ref m_alikes, .ref m_law, .ref m_worth, .ref m_times, .ref m_eWord, .ref m_eAfter, .ref m_sound, .ref m_isLaw, .ref m_wName, .int (nI bk), .int m_rb, .ref m_follow, .ref m_lengths, .ref m_said, .int m_latest, .int m_talked, .int m_sum, .int m_doneSet, .int m_w, .ref m_more, .ref m_laidRow, .int (nI ld), .ref m_piece, .ref m_far, .ref m_steps, .ref m_ends, .ref m_hPlace, .ref m_hWhat, .ref m_hValue, .ref m_hTold, .ref m_hUntold, .int m_sounds, .int m_time, .ref m_ways, .ref m_goesOn, .ref m_boxMany, .ref m_boxLatest, .ref m_boxSum, .ref m_boxW, .ref m_boxDone, .ref m_boxSaid])), (m_follow, .inl (cI, 24, .inl f_follow))] H := hP
            have hD : va_D A [(m_more, .inl (cI, 229376, .inl (upd g5 (Int32.toNatClampNeg (nI ((14 * st) + k5))) be))), (m_laidRow, .inl (cI, 200, .inl f_laidRow)), (o, .inr (11, [.ref m_tape, .ref m_text, .int m_taped, .int m_size, .int m_faultKind, .int m_faultPlace, .int m_at, .int m_end, .int m_token, .int m_number, .long m_name, .ref m_words, .ref m_errands, .ref m_alikes, .ref m_law, .ref m_worth, .ref m_times, .ref m_eWord, .ref m_eAfter, .ref m_sound, .ref m_isLaw, .ref m_wName, .int (nI bk), .int m_rb, .ref m_follow, .ref m_lengths, .ref m_said, .int m_latest, .int m_talked, .int m_sum, .int m_doneSet, .int m_w, .ref m_more, .ref m_laidRow, .int (nI ld), .ref m_piece, .ref m_far, .ref m_steps, .ref m_ends, .ref m_hPlace, .ref m_hWhat, .ref m_hValue, .ref m_hTold, .ref m_hUntold, .int m_sounds, .int m_time, .ref m_ways, .ref m_goesOn, .ref m_boxMany, .ref m_boxLatest, .ref m_boxSum, .ref m_boxW, .ref m_boxDone, .ref m_boxSaid])), (m_follow, .inl (cI, 24, .inl f_follow))] := hD
            generalize eg_52 : upd g5 (Int32.toNatClampNeg (nI ((14 * st) + k5))) be = g_52 at hP hD
            refine lv_iinc (v := nI (k5 + 1)) (lv' := [(4, .int (nI (k5 + 1))), (6, .int (nI o5)), (5, .int be), (3, .int (nI st)), (2, .int (nI (sN - 1))), (0, .ref o), (1, .int (nI w))]) hx hb dX11_layRound_126 hl (k := 2) rfl (nI_1 k5) (by decide) rfl (fun ls hl => ?_)
            refine lv_goto (tgt := 15) hx hb dX11_layRound_129 (by decide) ?_
            obtain ⟨hu1, hu2⟩ := Tb_up R2_loc hw4 (by omega) (by omega) hF_h_22 hF_h_23 eg_52 (R2_new hw4 (by omega) (by omega) hF_h_50 eg_52)
            exact kk_15 _ _ _ _ (by rw [← hn_15]; omega) ⟨(k5 + 1), g_52, rfl, hP.sub [2, 3, 0, 1] rfl, hD.sub [2, 3, 0, 1] (by decide) rfl, hS, lv_sub hl [0, 3, 4, 5, 6] rfl, (by omega), hu1, hu2⟩
          · have dc_51 : ¬ w ≤ o5 := fun h => c_51 ((nI_leI (a := w) (b := o5) (by omega) (by omega)).mpr h)
            refine lv_iload hx hb dX11_layRound_52 (lv_at hl 1 rfl) ?_
            refine lv_if_ne (tgt := 112) hx hb dX11_layRound_54 (by decide) (fun c_53 => ?_) (fun c_53 => ?_)
            · refine lv_aload_n hx hb dX11_layRound_112 rfl (lv_at hl 5 rfl) ?_
              refine va_get (D := D) (ci := 11) (v := .ref m_more) (C := RX11) (T := TX11) (N := 54) hx hb hts (by decide +kernel) hown hK hP 2 rfl rfl 32 (by decide) (hts (.fieldLink RX11 69 "LastLetterModel" "more" "[I") (by decide +kernel)) (fun _ h9 => h9) rfl dX11_layRound_113 ?_
              refine lv_bipush (v := 14) hx hb dX11_layRound_116 (by decide) ?_
              refine lv_iload_n hx hb dX11_layRound_118 rfl (lv_at hl 3 rfl) ?_
              refine lv_imul hx hb dX11_layRound_119 ?_
              refine xb_top (y := nI (14 * st)) (pk_mul 14 st) ?_
              refine lv_iload hx hb dX11_layRound_120 (lv_at hl 2 rfl) ?_
              refine lv_iadd hx hb dX11_layRound_122 ?_
              refine xb_top (y := nI ((14 * st) + k5)) (nI_add (14 * st) k5) ?_
              refine lv_iload hx hb dX11_layRound_123 (lv_at hl 1 rfl) ?_
              refine va_iast hx hb hK hP hD hS 0 1 rfl rfl (vp_in_nI (by omega) (by omega)) dX11_layRound_125 (fun H locs hP hD hS => ?_)
              have hP : va_P D vwCl [(m_more, .inl (cI, 229376, .inl (upd g5 (Int32.toNatClampNeg (nI ((14 * st) + k5))) be))), (m_laidRow, .inl (cI, 200, .inl f_laidRow)), (o, .inr (11, [.ref m_tape, .ref m_text, .int m_taped, .int m_size, .int m_faultKind, .int m_faultPlace, .int m_at, .int m_end, .int m_token, .int m_number, .long m_name, .ref m_words, .ref m_errands, .ref m_alikes, .ref m_law, .ref m_worth, .ref m_times, .ref m_eWord, .ref m_eAfter, .ref m_sound, .ref m_isLaw, .ref m_wName, .int (nI bk), .int m_rb, .ref m_follow, .ref m_lengths, .ref m_said, .int m_latest, .int m_talked, .int m_sum, .int m_doneSet, .int m_w, .ref m_more, .ref m_laidRow, .int (nI ld), .ref m_piece, .ref m_far, .ref m_steps, .ref m_ends, .ref m_hPlace, .ref m_hWhat, .ref m_hValue, .ref m_hTold, .ref m_hUntold, .int m_sounds, .int m_time, .ref m_ways, .ref m_goesOn, .ref m_boxMany, .ref m_boxLatest, .ref m_boxSum, .ref m_boxW, .ref m_boxDone, .ref m_boxSaid])), (m_follow, .inl (cI, 24, .inl f_follow))] H := hP
              have hD : va_D A [(m_more, .inl (cI, 229376, .inl (upd g5 (Int32.toNatClampNeg (nI ((14 * st) + k5))) be))), (m_laidRow, .inl (cI, 200, .inl f_laidRow)), (o, .inr (11, [.ref m_tape, .ref m_text, .int m_taped, .int m_size, .int m_faultKind, .int m_faultPlace, .int m_at, .int m_end, .int m_token, .int m_number, .long m_name, .ref m_words, .ref m_errands, .ref m_alikes, .ref m_law, .ref m_worth, .ref m_times, .ref m_eWord, .ref m_eAfter, .ref m_sound, .ref m_isLaw, .ref m_wName, .int (nI bk), .int m_rb, .ref m_follow, .ref m_lengths, .ref m_said, .int m_latest, .int m_talked, .int m_sum, .int m_doneSet, .int m_w, .ref m_more, .ref m_laidRow, .int (nI ld), .ref m_piece, .ref m_far, .ref m_steps, .ref m_ends, .ref m_hPlace, .ref m_hWhat, .ref m_hValue, .ref m_hTold, .ref m_hUntold, .int m_sounds, .int m_time, .ref m_ways, .ref m_goesOn, .ref m_boxMany, .ref m_boxLatest, .ref m_boxSum, .ref m_boxW, .ref m_boxDone, .ref m_boxSaid])), (m_follow, .inl (cI, 24, .inl f_follow))] := hD
              generalize eg_54 : upd g5 (Int32.toNatClampNeg (nI ((14 * st) + k5))) be = g_54 at hP hD
              refine lv_iinc (v := nI (k5 + 1)) (lv' := [(4, .int (nI (k5 + 1))), (6, .int (nI o5)), (5, .int be), (3, .int (nI st)), (2, .int (nI (sN - 1))), (0, .ref o), (1, .int (nI w))]) hx hb dX11_layRound_126 hl (k := 2) rfl (nI_1 k5) (by decide) rfl (fun ls hl => ?_)
              refine lv_goto (tgt := 15) hx hb dX11_layRound_129 (by decide) ?_
              obtain ⟨hu1, hu2⟩ := Tb_up R2_loc hw4 (by omega) (by omega) hF_h_22 hF_h_23 eg_54 (R2_new hw4 (by omega) (by omega) hF_h_50 eg_54)
              exact kk_15 _ _ _ _ (by rw [← hn_15]; omega) ⟨(k5 + 1), g_54, rfl, hP.sub [2, 3, 0, 1] rfl, hD.sub [2, 3, 0, 1] (by decide) rfl, hS, lv_sub hl [0, 3, 4, 5, 6] rfl, (by omega), hu1, hu2⟩
            · refine lv_iload_n hx hb dX11_layRound_57 rfl (lv_at hl 3 rfl) ?_
              refine lv_iload hx hb dX11_layRound_58 (lv_at hl 2 rfl) ?_
              refine lv_ishr hx hb dX11_layRound_60 ?_
              refine xb_top (y := nI (st / 2 ^ k5)) (nb_shr (a := st) (i := k5) (by omega) (by omega)) ?_
              refine lv_iconst (v := 1) hx hb dX11_layRound_61 (by decide) ?_
              refine lv_iand hx hb dX11_layRound_62 ?_
              refine xb_top (y := nI (st / 2 ^ k5 % 2)) ((nb_and _ 1).trans (by rw [Nat.and_one_is_mod])) ?_
              refine lv_iconst (v := 1) hx hb dX11_layRound_63 (by decide) ?_
              refine lv_icmp_ne (tgt := 112) hx hb dX11_layRound_64 (by decide) (fun c_55 => ?_) (fun c_55 => ?_)
              · have dc_55 : ¬ (st / 2 ^ k5 % 2) = 1 := fun h => c_55 ((nI_eq (a := st / 2 ^ k5 % 2) (b := 1) (by omega) (by omega)).mpr h)
                refine lv_aload_n hx hb dX11_layRound_112 rfl (lv_at hl 5 rfl) ?_
                refine va_get (D := D) (ci := 11) (v := .ref m_more) (C := RX11) (T := TX11) (N := 54) hx hb hts (by decide +kernel) hown hK hP 2 rfl rfl 32 (by decide) (hts (.fieldLink RX11 69 "LastLetterModel" "more" "[I") (by decide +kernel)) (fun _ h9 => h9) rfl dX11_layRound_113 ?_
                refine lv_bipush (v := 14) hx hb dX11_layRound_116 (by decide) ?_
                refine lv_iload_n hx hb dX11_layRound_118 rfl (lv_at hl 3 rfl) ?_
                refine lv_imul hx hb dX11_layRound_119 ?_
                refine xb_top (y := nI (14 * st)) (pk_mul 14 st) ?_
                refine lv_iload hx hb dX11_layRound_120 (lv_at hl 2 rfl) ?_
                refine lv_iadd hx hb dX11_layRound_122 ?_
                refine xb_top (y := nI ((14 * st) + k5)) (nI_add (14 * st) k5) ?_
                refine lv_iload hx hb dX11_layRound_123 (lv_at hl 1 rfl) ?_
                refine va_iast hx hb hK hP hD hS 0 1 rfl rfl (vp_in_nI (by omega) (by omega)) dX11_layRound_125 (fun H locs hP hD hS => ?_)
                have hP : va_P D vwCl [(m_more, .inl (cI, 229376, .inl (upd g5 (Int32.toNatClampNeg (nI ((14 * st) + k5))) be))), (m_laidRow, .inl (cI, 200, .inl f_laidRow)), (o, .inr (11, [.ref m_tape, .ref m_text, .int m_taped, .int m_size, .int m_faultKind, .int m_faultPlace, .int m_at, .int m_end, .int m_token, .int m_number, .long m_name, .ref m_words, .ref m_errands, .ref m_alikes, .ref m_law, .ref m_worth, .ref m_times, .ref m_eWord, .ref m_eAfter, .ref m_sound, .ref m_isLaw, .ref m_wName, .int (nI bk), .int m_rb, .ref m_follow, .ref m_lengths, .ref m_said, .int m_latest, .int m_talked, .int m_sum, .int m_doneSet, .int m_w, .ref m_more, .ref m_laidRow, .int (nI ld), .ref m_piece, .ref m_far, .ref m_steps, .ref m_ends, .ref m_hPlace, .ref m_hWhat, .ref m_hValue, .ref m_hTold, .ref m_hUntold, .int m_sounds, .int m_time, .ref m_ways, .ref m_goesOn, .ref m_boxMany, .ref m_boxLatest, .ref m_boxSum, .ref m_boxW, .ref m_boxDone, .ref m_boxSaid])), (m_follow, .inl (cI, 24, .inl f_follow))] H := hP
                have hD : va_D A [(m_more, .inl (cI, 229376, .inl (upd g5 (Int32.toNatClampNeg (nI ((14 * st) + k5))) be))), (m_laidRow, .inl (cI, 200, .inl f_laidRow)), (o, .inr (11, [.ref m_tape, .ref m_text, .int m_taped, .int m_size, .int m_faultKind, .int m_faultPlace, .int m_at, .int m_end, .int m_token, .int m_number, .long m_name, .ref m_words, .ref m_errands, .ref m_alikes, .ref m_law, .ref m_worth, .ref m_times, .ref m_eWord, .ref m_eAfter, .ref m_sound, .ref m_isLaw, .ref m_wName, .int (nI bk), .int m_rb, .ref m_follow, .ref m_lengths, .ref m_said, .int m_latest, .int m_talked, .int m_sum, .int m_doneSet, .int m_w, .ref m_more, .ref m_laidRow, .int (nI ld), .ref m_piece, .ref m_far, .ref m_steps, .ref m_ends, .ref m_hPlace, .ref m_hWhat, .ref m_hValue, .ref m_hTold, .ref m_hUntold, .int m_sounds, .int m_time, .ref m_ways, .ref m_goesOn, .ref m_boxMany, .ref m_boxLatest, .ref m_boxSum, .ref m_boxW, .ref m_boxDone, .ref m_boxSaid])), (m_follow, .inl (cI, 24, .inl f_follow))] := hD
                generalize eg_56 : upd g5 (Int32.toNatClampNeg (nI ((14 * st) + k5))) be = g_56 at hP hD
                refine lv_iinc (v := nI (k5 + 1)) (lv' := [(4, .int (nI (k5 + 1))), (6, .int (nI o5)), (5, .int be), (3, .int (nI st)), (2, .int (nI (sN - 1))), (0, .ref o), (1, .int (nI w))]) hx hb dX11_layRound_126 hl (k := 2) rfl (nI_1 k5) (by decide) rfl (fun ls hl => ?_)
                refine lv_goto (tgt := 15) hx hb dX11_layRound_129 (by decide) ?_
                obtain ⟨hu1, hu2⟩ := Tb_up R2_loc hw4 (by omega) (by omega) hF_h_22 hF_h_23 eg_56 (R2_new hw4 (by omega) (by omega) hF_h_50 eg_56)
                exact kk_15 _ _ _ _ (by rw [← hn_15]; omega) ⟨(k5 + 1), g_56, rfl, hP.sub [2, 3, 0, 1] rfl, hD.sub [2, 3, 0, 1] (by decide) rfl, hS, lv_sub hl [0, 3, 4, 5, 6] rfl, (by omega), hu1, hu2⟩
              · have dc_55 : st / 2 ^ k5 % 2 = 1 := (nI_eq (a := st / 2 ^ k5 % 2) (b := 1) (by omega) (by omega)).mp c_55
                refine lv_iload_n hx hb dX11_layRound_67 rfl (lv_at hl 3 rfl) ?_
                refine lv_iload hx hb dX11_layRound_68 (lv_at hl 0 rfl) ?_
                refine lv_ishr hx hb dX11_layRound_70 ?_
                refine xb_top (y := nI (st / 2 ^ o5)) (nb_shr (a := st) (i := o5) (by omega) (by omega)) ?_
                refine lv_iconst (v := 1) hx hb dX11_layRound_71 (by decide) ?_
                refine lv_iand hx hb dX11_layRound_72 ?_
                refine xb_top (y := nI (st / 2 ^ o5 % 2)) ((nb_and _ 1).trans (by rw [Nat.and_one_is_mod])) ?_
                refine lv_if_ne (tgt := 106) hx hb dX11_layRound_73 (by decide) (fun c_57 => ?_) (fun c_57 => ?_)
                · have dc_57 : ¬ (st / 2 ^ o5 % 2) = 0 := fun h => c_57 ((nI_eq (a := st / 2 ^ o5 % 2) (b := 0) (by omega) (by omega)).mpr h)
                  refine lv_iinc (v := nI (o5 + 1)) (lv' := [(6, .int (nI (o5 + 1))), (5, .int be), (4, .int (nI k5)), (3, .int (nI st)), (2, .int (nI (sN - 1))), (0, .ref o), (1, .int (nI w))]) hx hb dX11_layRound_106 hl (k := 0) rfl (nI_1 o5) (by decide) rfl (fun ls hl => ?_)
                  refine lv_goto (tgt := 46) hx hb dX11_layRound_109 (by decide) ?_
                  exact kk_46 _ _ _ _ (by rw [← hn_46]; omega) ⟨(o5 + 1), be, rfl, hP, hD, hS, lv_sub hl [0, 1, 2, 3, 4, 5, 6] rfl, (by omega), hF_h_50⟩
                · have dc_57 : st / 2 ^ o5 % 2 = 0 := (nI_eq (a := st / 2 ^ o5 % 2) (b := 0) (by omega) (by omega)).mp c_57
                  refine lv_aload_n hx hb dX11_layRound_76 rfl (lv_at hl 5 rfl) ?_
                  refine lv_iload hx hb dX11_layRound_77 (lv_at hl 2 rfl) ?_
                  refine lv_iload hx hb dX11_layRound_79 (lv_at hl 0 rfl) ?_
                  refine xCi (wr := [(m_more, .inl (cI, 229376, .inl g5)), (m_laidRow, .inl (cI, 200, .inl f_laidRow))]) (win := [(o, .inr (11, [.ref m_tape, .ref m_text, .int m_taped, .int m_size, .int m_faultKind, .int m_faultPlace, .int m_at, .int m_end, .int m_token, .int m_number, .long m_name, .ref m_words, .ref m_errands, .ref m_alikes, .ref m_law, .ref m_worth, .ref m_times, .ref m_eWord, .ref m_eAfter, .ref m_sound, .ref m_isLaw, .ref m_wName, .int (nI bk), .int m_rb, .ref m_follow, .ref m_lengths, .ref m_said, .int m_latest, .int m_talked, .int m_sum, .int m_doneSet, .int m_w, .ref m_more, .ref m_laidRow, .int (nI ld), .ref m_piece, .ref m_far, .ref m_steps, .ref m_ends, .ref m_hPlace, .ref m_hWhat, .ref m_hValue, .ref m_hTold, .ref m_hUntold, .int m_sounds, .int m_time, .ref m_ways, .ref m_goesOn, .ref m_boxMany, .ref m_boxLatest, .ref m_boxSum, .ref m_boxW, .ref m_boxDone, .ref m_boxSaid])), (m_follow, .inl (cI, 24, .inl f_follow))]) hP hD hS hA [2, 3] [0, 1] rfl rfl (by decide) (by decide) (va_runV (As := [.int (nI k5), .int (nI o5)]) (rest := []) ⟨hx, hb, hml, hown, hts⟩ (c_X11_isAfter l D cB cI cJ cS cZ cO H.size o k5 o5 m_tape m_text m_taped m_size m_faultKind m_faultPlace m_at m_end m_token m_number m_name m_words m_errands m_alikes m_law m_worth m_times m_eWord m_eAfter m_sound m_isLaw m_wName (nI bk) m_rb m_follow m_lengths m_said m_latest m_talked m_sum m_doneSet m_w m_more m_laidRow (nI ld) m_piece m_far m_steps m_ends m_hPlace m_hWhat m_hValue m_hTold m_hUntold m_sounds m_time m_ways m_goesOn m_boxMany m_boxLatest m_boxSum m_boxW m_boxDone m_boxSaid f_follow (by first | assumption | omega | decide)) (cwV 2 hts gX11_layRound_X11_isAfter rfl rfl rfl (by decide +kernel) ⟨Nat.le_of_ble_eq_true rfl, Nat.le_of_ble_eq_true rfl⟩) (xPreV (win := [(o, .inr (11, [.ref m_tape, .ref m_text, .int m_taped, .int m_size, .int m_faultKind, .int m_faultPlace, .int m_at, .int m_end, .int m_token, .int m_number, .long m_name, .ref m_words, .ref m_errands, .ref m_alikes, .ref m_law, .ref m_worth, .ref m_times, .ref m_eWord, .ref m_eAfter, .ref m_sound, .ref m_isLaw, .ref m_wName, .int (nI bk), .int m_rb, .ref m_follow, .ref m_lengths, .ref m_said, .int m_latest, .int m_talked, .int m_sum, .int m_doneSet, .int m_w, .ref m_more, .ref m_laidRow, .int (nI ld), .ref m_piece, .ref m_far, .ref m_steps, .ref m_ends, .ref m_hPlace, .ref m_hWhat, .ref m_hValue, .ref m_hTold, .ref m_hUntold, .int m_sounds, .int m_time, .ref m_ways, .ref m_goesOn, .ref m_boxMany, .ref m_boxLatest, .ref m_boxSum, .ref m_boxW, .ref m_boxDone, .ref m_boxSaid])), (m_follow, .inl (cI, 24, .inl f_follow))]) hN hK hP hD [2, 3] (by decide) rfl 2 11 rfl rfl rfl) rfl rfl hl.1 rfl (lv_room (Nat.le_of_ble_eq_true rfl)) dX11_layRound_81 ⟨Nat.le_of_ble_eq_true rfl, Nat.le_of_ble_eq_true rfl⟩) (fun r0 w0 H locs hw hP hD hS => ?_)
                  obtain ⟨rfl, rfl⟩ := hw
                  have hP : va_P D vwCl [(m_more, .inl (cI, 229376, .inl g5)), (m_laidRow, .inl (cI, 200, .inl f_laidRow)), (o, .inr (11, [.ref m_tape, .ref m_text, .int m_taped, .int m_size, .int m_faultKind, .int m_faultPlace, .int m_at, .int m_end, .int m_token, .int m_number, .long m_name, .ref m_words, .ref m_errands, .ref m_alikes, .ref m_law, .ref m_worth, .ref m_times, .ref m_eWord, .ref m_eAfter, .ref m_sound, .ref m_isLaw, .ref m_wName, .int (nI bk), .int m_rb, .ref m_follow, .ref m_lengths, .ref m_said, .int m_latest, .int m_talked, .int m_sum, .int m_doneSet, .int m_w, .ref m_more, .ref m_laidRow, .int (nI ld), .ref m_piece, .ref m_far, .ref m_steps, .ref m_ends, .ref m_hPlace, .ref m_hWhat, .ref m_hValue, .ref m_hTold, .ref m_hUntold, .int m_sounds, .int m_time, .ref m_ways, .ref m_goesOn, .ref m_boxMany, .ref m_boxLatest, .ref m_boxSum, .ref m_boxW, .ref m_boxDone, .ref m_boxSaid])), (m_follow, .inl (cI, 24, .inl f_follow))] H := hP
                  have hD : va_D A [(m_more, .inl (cI, 229376, .inl g5)), (m_laidRow, .inl (cI, 200, .inl f_laidRow)), (o, .inr (11, [.ref m_tape, .ref m_text, .int m_taped, .int m_size, .int m_faultKind, .int m_faultPlace, .int m_at, .int m_end, .int m_token, .int m_number, .long m_name, .ref m_words, .ref m_errands, .ref m_alikes, .ref m_law, .ref m_worth, .ref m_times, .ref m_eWord, .ref m_eAfter, .ref m_sound, .ref m_isLaw, .ref m_wName, .int (nI bk), .int m_rb, .ref m_follow, .ref m_lengths, .ref m_said, .int m_latest, .int m_talked, .int m_sum, .int m_doneSet, .int m_w, .ref m_more, .ref m_laidRow, .int (nI ld), .ref m_piece, .ref m_far, .ref m_steps, .ref m_ends, .ref m_hPlace, .ref m_hWhat, .ref m_hValue, .ref m_hTold, .ref m_hUntold, .int m_sounds, .int m_time, .ref m_ways, .ref m_goesOn, .ref m_boxMany, .ref m_boxLatest, .ref m_boxSum, .ref m_boxW, .ref m_boxDone, .ref m_boxSaid])), (m_follow, .inl (cI, 24, .inl f_follow))] := hD
                  refine lv_if_eq (tgt := 106) hx hb dX11_layRound_84 (by decide) (fun c_58 => ?_) (fun c_58 => ?_)
                  · refine lv_iinc (v := nI (o5 + 1)) (lv' := [(6, .int (nI (o5 + 1))), (5, .int be), (4, .int (nI k5)), (3, .int (nI st)), (2, .int (nI (sN - 1))), (0, .ref o), (1, .int (nI w))]) hx hb dX11_layRound_106 hl (k := 0) rfl (nI_1 o5) (by decide) rfl (fun ls hl => ?_)
                    refine lv_goto (tgt := 46) hx hb dX11_layRound_109 (by decide) ?_
                    exact kk_46 _ _ _ _ (by rw [← hn_46]; omega) ⟨(o5 + 1), be, rfl, hP, hD, hS, lv_sub hl [0, 1, 2, 3, 4, 5, 6] rfl, (by omega), hF_h_50⟩
                  · refine lv_aload_n hx hb dX11_layRound_87 rfl (lv_at hl 5 rfl) ?_
                    refine va_get (D := D) (ci := 11) (v := .ref m_more) (C := RX11) (T := TX11) (N := 54) hx hb hts (by decide +kernel) hown hK hP 2 rfl rfl 32 (by decide) (hts (.fieldLink RX11 69 "LastLetterModel" "more" "[I") (by decide +kernel)) (fun _ h9 => h9) rfl dX11_layRound_88 ?_
                    refine lv_bipush (v := 14) hx hb dX11_layRound_91 (by decide) ?_
                    refine lv_iload_n hx hb dX11_layRound_93 rfl (lv_at hl 3 rfl) ?_
                    refine lv_iconst (v := 1) hx hb dX11_layRound_94 (by decide) ?_
                    refine lv_iload hx hb dX11_layRound_95 (lv_at hl 0 rfl) ?_
                    refine lv_ishl hx hb dX11_layRound_97 ?_
                    refine xb_top (y := nI (1 * 2 ^ o5)) (nb_shl (a := 1) (i := o5) (by omega)) ?_
                    have hor_58 : st ||| 1 * 2 ^ o5 < sN := or_lt hs (by omega) (by omega)
                    refine lv_ior hx hb dX11_layRound_98 ?_
                    refine xb_top (y := nI (st ||| 1 * 2 ^ o5)) (nb_or _ _) ?_
                    refine lv_imul hx hb dX11_layRound_99 ?_
                    refine xb_top (y := nI (14 * (st ||| 1 * 2 ^ o5))) (pk_mul 14 (st ||| 1 * 2 ^ o5)) ?_
                    refine lv_iload hx hb dX11_layRound_100 (lv_at hl 0 rfl) ?_
                    refine lv_iadd hx hb dX11_layRound_102 ?_
                    refine xb_top (y := nI ((14 * (st ||| 1 * 2 ^ o5)) + o5)) (nI_add (14 * (st ||| 1 * 2 ^ o5)) o5) ?_
                    refine va_iald hx hb hK hP 0 1 rfl rfl (vp_in_nI (by omega) (by omega)) dX11_layRound_103 ?_
                    refine xb_top (y := g5 ((14 * (st ||| 1 * 2 ^ o5)) + o5)) (by rw [nI_clamp (by omega)]) ?_
                    refine lv_topi (fun v_59 ev_59 => ?_)
                    refine lv_istore (lv' := [(5, .int v_59), (6, .int (nI o5)), (4, .int (nI k5)), (3, .int (nI st)), (2, .int (nI (sN - 1))), (0, .ref o), (1, .int (nI w))]) hx hb dX11_layRound_104 hl (by decide) rfl (fun ls hl => ?_)
                    refine lv_iinc (v := nI (o5 + 1)) (lv' := [(6, .int (nI (o5 + 1))), (5, .int v_59), (4, .int (nI k5)), (3, .int (nI st)), (2, .int (nI (sN - 1))), (0, .ref o), (1, .int (nI w))]) hx hb dX11_layRound_106 hl (k := 1) rfl (nI_1 o5) (by decide) rfl (fun ls hl => ?_)
                    refine lv_goto (tgt := 46) hx hb dX11_layRound_109 (by decide) ?_
                    exact kk_46 _ _ _ _ (by rw [← hn_46]; omega) ⟨(o5 + 1), v_59, rfl, hP, hD, hS, lv_sub hl [0, 1, 2, 3, 4, 5, 6] rfl, (by omega), (if h9 : v_59 = 0 then Or.inl h9 else Or.inr (Or.inr ⟨o5, by omega, by omega, c_58, (ev_59 ▸ h9)⟩))⟩
