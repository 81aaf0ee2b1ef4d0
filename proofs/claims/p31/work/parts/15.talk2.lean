theorem dX6_choose_0 : decode cX6_choose 0 = .ok (.aload_n 0, 1) := by decide +kernel
theorem dX6_choose_1 : decode cX6_choose 1 = .ok (.aload_n 1, 1) := by decide +kernel
theorem dX6_choose_2 : decode cX6_choose 2 = .ok (.invokevirtual 80, 3) := by decide +kernel
theorem dX6_choose_5 : decode cX6_choose 5 = .ok (.istore_n 3, 1) := by decide +kernel
theorem dX6_choose_6 : decode cX6_choose 6 = .ok (.iload_n 2, 1) := by decide +kernel
theorem dX6_choose_7 : decode cX6_choose 7 = .ok (.iconst 3, 1) := by decide +kernel
theorem dX6_choose_8 : decode cX6_choose 8 = .ok (.if_icmp .ne 9, 3) := by decide +kernel
theorem dX6_choose_11 : decode cX6_choose 11 = .ok (.aload_n 0, 1) := by decide +kernel
theorem dX6_choose_12 : decode cX6_choose 12 = .ok (.iload_n 3, 1) := by decide +kernel
theorem dX6_choose_13 : decode cX6_choose 13 = .ok (.invokevirtual 84, 3) := by decide +kernel
theorem dX6_choose_16 : decode cX6_choose 16 = .ok (.ireturn, 1) := by decide +kernel
theorem dX6_choose_17 : decode cX6_choose 17 = .ok (.iconst (-1), 1) := by decide +kernel
theorem dX6_choose_18 : decode cX6_choose 18 = .ok (.istore 4, 2) := by decide +kernel
theorem dX6_choose_20 : decode cX6_choose 20 = .ok (.iconst 0, 1) := by decide +kernel
theorem dX6_choose_21 : decode cX6_choose 21 = .ok (.istore 5, 2) := by decide +kernel
theorem dX6_choose_23 : decode cX6_choose 23 = .ok (.iconst 0, 1) := by decide +kernel
theorem dX6_choose_24 : decode cX6_choose 24 = .ok (.istore 6, 2) := by decide +kernel
theorem dX6_choose_26 : decode cX6_choose 26 = .ok (.iload 6, 2) := by decide +kernel
theorem dX6_choose_28 : decode cX6_choose 28 = .ok (.aload_n 1, 1) := by decide +kernel
theorem dX6_choose_29 : decode cX6_choose 29 = .ok (.getfield 62, 3) := by decide +kernel
theorem dX6_choose_32 : decode cX6_choose 32 = .ok (.if_icmp .ge 49, 3) := by decide +kernel
theorem dX6_choose_35 : decode cX6_choose 35 = .ok (.iload_n 3, 1) := by decide +kernel
theorem dX6_choose_36 : decode cX6_choose 36 = .ok (.iload 6, 2) := by decide +kernel
theorem dX6_choose_38 : decode cX6_choose 38 = .ok (.invokestatic 65, 3) := by decide +kernel
theorem dX6_choose_41 : decode cX6_choose 41 = .ok (.ifCond .eq 34, 3) := by decide +kernel
theorem dX6_choose_44 : decode cX6_choose 44 = .ok (.aload_n 0, 1) := by decide +kernel
theorem dX6_choose_45 : decode cX6_choose 45 = .ok (.aload_n 1, 1) := by decide +kernel
theorem dX6_choose_46 : decode cX6_choose 46 = .ok (.iload_n 2, 1) := by decide +kernel
theorem dX6_choose_47 : decode cX6_choose 47 = .ok (.iload 6, 2) := by decide +kernel
theorem dX6_choose_49 : decode cX6_choose 49 = .ok (.invokevirtual 88, 3) := by decide +kernel
theorem dX6_choose_52 : decode cX6_choose 52 = .ok (.istore 7, 2) := by decide +kernel
theorem dX6_choose_54 : decode cX6_choose 54 = .ok (.iload 4, 2) := by decide +kernel
theorem dX6_choose_56 : decode cX6_choose 56 = .ok (.iconst (-1), 1) := by decide +kernel
theorem dX6_choose_57 : decode cX6_choose 57 = .ok (.if_icmp .eq 10, 3) := by decide +kernel
theorem dX6_choose_60 : decode cX6_choose 60 = .ok (.iload 7, 2) := by decide +kernel
theorem dX6_choose_62 : decode cX6_choose 62 = .ok (.iload 5, 2) := by decide +kernel
theorem dX6_choose_64 : decode cX6_choose 64 = .ok (.if_icmp .le 11, 3) := by decide +kernel
theorem dX6_choose_67 : decode cX6_choose 67 = .ok (.iload 6, 2) := by decide +kernel
theorem dX6_choose_69 : decode cX6_choose 69 = .ok (.istore 4, 2) := by decide +kernel
theorem dX6_choose_71 : decode cX6_choose 71 = .ok (.iload 7, 2) := by decide +kernel
theorem dX6_choose_73 : decode cX6_choose 73 = .ok (.istore 5, 2) := by decide +kernel
theorem dX6_choose_75 : decode cX6_choose 75 = .ok (.iinc 6 1, 3) := by decide +kernel
theorem dX6_choose_78 : decode cX6_choose 78 = .ok (.goto (-52), 3) := by decide +kernel
theorem dX6_choose_81 : decode cX6_choose 81 = .ok (.iload 4, 2) := by decide +kernel
theorem dX6_choose_83 : decode cX6_choose 83 = .ok (.ireturn, 1) := by decide +kernel
theorem dX6_drawn_0 : decode cX6_drawn 0 = .ok (.iload_n 1, 1) := by decide +kernel
theorem dX6_drawn_1 : decode cX6_drawn 1 = .ok (.invokestatic 95, 3) := by decide +kernel
theorem dX6_drawn_4 : decode cX6_drawn 4 = .ok (.istore_n 2, 1) := by decide +kernel
theorem dX6_drawn_5 : decode cX6_drawn 5 = .ok (.iload_n 2, 1) := by decide +kernel
theorem dX6_drawn_6 : decode cX6_drawn 6 = .ok (.ifCond .ne 5, 3) := by decide +kernel
theorem dX6_drawn_9 : decode cX6_drawn 9 = .ok (.iconst (-1), 1) := by decide +kernel
theorem dX6_drawn_10 : decode cX6_drawn 10 = .ok (.ireturn, 1) := by decide +kernel
theorem dX6_drawn_11 : decode cX6_drawn 11 = .ok (.aload_n 0, 1) := by decide +kernel
theorem dX6_drawn_12 : decode cX6_drawn 12 = .ok (.aload_n 0, 1) := by decide +kernel
theorem dX6_drawn_13 : decode cX6_drawn 13 = .ok (.getfield 19, 3) := by decide +kernel
theorem dX6_drawn_16 : decode cX6_drawn 16 = .ok (.ldc 100, 2) := by decide +kernel
theorem dX6_drawn_18 : decode cX6_drawn 18 = .ok (.imul, 1) := by decide +kernel
theorem dX6_drawn_19 : decode cX6_drawn 19 = .ok (.sipush 12345, 3) := by decide +kernel
theorem dX6_drawn_22 : decode cX6_drawn 22 = .ok (.iadd, 1) := by decide +kernel
theorem dX6_drawn_23 : decode cX6_drawn 23 = .ok (.putfield 19, 3) := by decide +kernel
theorem dX6_drawn_26 : decode cX6_drawn 26 = .ok (.aload_n 0, 1) := by decide +kernel
theorem dX6_drawn_27 : decode cX6_drawn 27 = .ok (.getfield 19, 3) := by decide +kernel
theorem dX6_drawn_30 : decode cX6_drawn 30 = .ok (.bipush 16, 2) := by decide +kernel
theorem dX6_drawn_32 : decode cX6_drawn 32 = .ok (.iushr, 1) := by decide +kernel
theorem dX6_drawn_33 : decode cX6_drawn 33 = .ok (.iload_n 2, 1) := by decide +kernel
theorem dX6_drawn_34 : decode cX6_drawn 34 = .ok (.irem, 1) := by decide +kernel
theorem dX6_drawn_35 : decode cX6_drawn 35 = .ok (.istore_n 3, 1) := by decide +kernel
theorem dX6_drawn_36 : decode cX6_drawn 36 = .ok (.iload_n 1, 1) := by decide +kernel
theorem dX6_drawn_37 : decode cX6_drawn 37 = .ok (.istore 4, 2) := by decide +kernel
theorem dX6_drawn_39 : decode cX6_drawn 39 = .ok (.iconst 0, 1) := by decide +kernel
theorem dX6_drawn_40 : decode cX6_drawn 40 = .ok (.istore 5, 2) := by decide +kernel
theorem dX6_drawn_42 : decode cX6_drawn 42 = .ok (.iload 5, 2) := by decide +kernel
theorem dX6_drawn_44 : decode cX6_drawn 44 = .ok (.iload_n 3, 1) := by decide +kernel
theorem dX6_drawn_45 : decode cX6_drawn 45 = .ok (.if_icmp .ge 18, 3) := by decide +kernel
theorem dX6_drawn_48 : decode cX6_drawn 48 = .ok (.iload 4, 2) := by decide +kernel
theorem dX6_drawn_50 : decode cX6_drawn 50 = .ok (.iload 4, 2) := by decide +kernel
theorem dX6_drawn_52 : decode cX6_drawn 52 = .ok (.iconst 1, 1) := by decide +kernel
theorem dX6_drawn_53 : decode cX6_drawn 53 = .ok (.isub, 1) := by decide +kernel
theorem dX6_drawn_54 : decode cX6_drawn 54 = .ok (.iand, 1) := by decide +kernel
theorem dX6_drawn_55 : decode cX6_drawn 55 = .ok (.istore 4, 2) := by decide +kernel
theorem dX6_drawn_57 : decode cX6_drawn 57 = .ok (.iinc 5 1, 3) := by decide +kernel
theorem dX6_drawn_60 : decode cX6_drawn 60 = .ok (.goto (-18), 3) := by decide +kernel
theorem dX6_drawn_63 : decode cX6_drawn 63 = .ok (.iload 4, 2) := by decide +kernel
theorem dX6_drawn_65 : decode cX6_drawn 65 = .ok (.invokestatic 101, 3) := by decide +kernel
theorem dX6_drawn_68 : decode cX6_drawn 68 = .ok (.ireturn, 1) := by decide +kernel
theorem dX7_put_0 : decode cX7_put 0 = .ok (.bipush 24, 2) := by decide +kernel
theorem dX7_put_2 : decode cX7_put 2 = .ok (.istore_n 2, 1) := by decide +kernel
theorem dX7_put_3 : decode cX7_put 3 = .ok (.iload_n 2, 1) := by decide +kernel
theorem dX7_put_4 : decode cX7_put 4 = .ok (.ifCond .lt 42, 3) := by decide +kernel
theorem dX7_put_7 : decode cX7_put 7 = .ok (.aload_n 0, 1) := by decide +kernel
theorem dX7_put_8 : decode cX7_put 8 = .ok (.getfield 15, 3) := by decide +kernel
theorem dX7_put_11 : decode cX7_put 11 = .ok (.sipush 1600, 3) := by decide +kernel
theorem dX7_put_14 : decode cX7_put 14 = .ok (.if_icmp .ge 32, 3) := by decide +kernel
theorem dX7_put_17 : decode cX7_put 17 = .ok (.aload_n 0, 1) := by decide +kernel
theorem dX7_put_18 : decode cX7_put 18 = .ok (.getfield 9, 3) := by decide +kernel
theorem dX7_put_21 : decode cX7_put 21 = .ok (.aload_n 0, 1) := by decide +kernel
theorem dX7_put_22 : decode cX7_put 22 = .ok (.getfield 15, 3) := by decide +kernel
theorem dX7_put_25 : decode cX7_put 25 = .ok (.iload_n 1, 1) := by decide +kernel
theorem dX7_put_26 : decode cX7_put 26 = .ok (.iload_n 2, 1) := by decide +kernel
theorem dX7_put_27 : decode cX7_put 27 = .ok (.iushr, 1) := by decide +kernel
theorem dX7_put_28 : decode cX7_put 28 = .ok (.i2b, 1) := by decide +kernel
theorem dX7_put_29 : decode cX7_put 29 = .ok (.bastore, 1) := by decide +kernel
theorem dX7_put_30 : decode cX7_put 30 = .ok (.aload_n 0, 1) := by decide +kernel
theorem dX7_put_31 : decode cX7_put 31 = .ok (.dup, 1) := by decide +kernel
theorem dX7_put_32 : decode cX7_put 32 = .ok (.getfield 15, 3) := by decide +kernel
theorem dX7_put_35 : decode cX7_put 35 = .ok (.iconst 1, 1) := by decide +kernel
theorem dX7_put_36 : decode cX7_put 36 = .ok (.iadd, 1) := by decide +kernel
theorem dX7_put_37 : decode cX7_put 37 = .ok (.putfield 15, 3) := by decide +kernel
theorem dX7_put_40 : decode cX7_put 40 = .ok (.iinc 2 (-8), 3) := by decide +kernel
theorem dX7_put_43 : decode cX7_put 43 = .ok (.goto (-40), 3) := by decide +kernel
theorem dX7_put_46 : decode cX7_put 46 = .ok (.return_, 1) := by decide +kernel
set_option maxRecDepth 20000 in
theorem ggX6_choose_X10_isIn : GoodIn wsX6_choose wsX10_isIn := goodIn_r _ [19] (by decide +kernel) (by decide +kernel)
set_option maxRecDepth 20000 in
theorem gX6_choose_X10_isIn_n65 : GoodIn wsX6_choose (wsX10_isIn) := ggX6_choose_X10_isIn
set_option maxRecDepth 20000 in
theorem ggX6_choose_X6_drawn : GoodIn wsX6_choose wsX6_drawn := goodIn_r _ [28, 29, 30, 31, 32, 33, 34, 35, 36, 37, 38, 18, 39, 40, 41, 42, 43, 68, 69, 70, 71, 72, 73, 74] (by decide +kernel) (by decide +kernel)
set_option maxRecDepth 20000 in
theorem gX6_choose_X6_drawn : GoodIn wsX6_choose (wsV RX6 84 RX6 yX6_drawn wsX6_drawn) := goodIn_app (goodIn_of _ (by decide +kernel)) ggX6_choose_X6_drawn
set_option maxRecDepth 20000 in
theorem ggX6_choose_X6_open : GoodIn wsX6_choose wsX6_open := goodIn_r _ [5, 6, 7, 8, 9, 10, 11, 12, 13, 14, 15, 16, 17, 18, 19, 20, 21, 22, 4, 23, 24, 68, 69, 70, 71, 72, 73, 74, 52, 53, 54, 55, 56, 57, 58, 59, 60, 61, 62, 63, 64, 65, 66, 67] (by decide +kernel) (by decide +kernel)
set_option maxRecDepth 20000 in
theorem gX6_choose_X6_open : GoodIn wsX6_choose (wsV RX6 80 RX6 yX6_open wsX6_open) := goodIn_app (goodIn_of _ (by decide +kernel)) ggX6_choose_X6_open
set_option maxRecDepth 20000 in
theorem ggX6_choose_X6_rank : GoodIn wsX6_choose wsX6_rank := goodIn_r _ [47, 48, 49, 50, 4, 51, 17, 18, 19, 20, 21, 22, 23, 24, 52, 53, 54, 55, 56, 57, 58, 59, 60, 61, 62, 63, 64, 65, 66, 67, 68, 69, 70, 71, 72, 73, 74] (by decide +kernel) (by decide +kernel)
set_option maxRecDepth 20000 in
theorem gX6_choose_X6_rank : GoodIn wsX6_choose (wsV RX6 88 RX6 yX6_rank wsX6_rank) := goodIn_app (goodIn_of _ (by decide +kernel)) ggX6_choose_X6_rank
set_option maxRecDepth 20000 in
theorem ggX6_drawn_J6_bitCount_0f7a4 : GoodIn wsX6_drawn wsJ6_bitCount_0f7a4 := goodIn_r _ [6, 7, 8, 9] (by decide +kernel) (by decide +kernel)
set_option maxRecDepth 20000 in
theorem gX6_drawn_J6_bitCount_0f7a4 : GoodIn wsX6_drawn (va_wsS RX6 95 yJ6_bitCount_0f7a4 wsJ6_bitCount_0f7a4) := goodIn_app (goodIn_of _ (by decide +kernel)) ggX6_drawn_J6_bitCount_0f7a4
set_option maxRecDepth 20000 in
theorem ggX6_drawn_X10_lowest : GoodIn wsX6_drawn wsX10_lowest := goodIn_r _ [12, 13, 14, 5, 15, 16] (by decide +kernel) (by decide +kernel)
set_option maxRecDepth 20000 in
theorem gX6_drawn_X10_lowest_n101 : GoodIn wsX6_drawn (wsX10_lowest) := ggX6_drawn_X10_lowest
theorem lt_any {i : Nat} {v : Int32} (hi : i < 2147483648) (h : ¬ v ≤ nI i) : i + 1 < 2147483648 := by
  by_cases h1 : i + 1 < 2147483648
  · exact h1
  · refine absurd (Int32.le_iff_toInt_le.mpr ?_) h
    rw [nI_toInt (by omega)]
    have h2 := Int32.toInt_lt v
    omega
theorem any_nI (x : Int32) : ∃ y : Nat, x = nI y := ⟨x.toBitVec.toNat, by
  apply Int32.toBitVec_inj.mp
  show x.toBitVec = BitVec.ofNat 32 x.toBitVec.toNat
  simp⟩
theorem and_any (a : Nat) (x : Int32) : ∃ q, q ≤ a ∧ nI a &&& x = nI q := by
  obtain ⟨y, rfl⟩ := any_nI x
  exact ⟨_, Nat.and_le_left, nb_and a y⟩
theorem any_and (a : Nat) (x : Int32) : ∃ q, q ≤ a ∧ x &&& nI a = nI q := by
  obtain ⟨y, rfl⟩ := any_nI x
  exact ⟨_, Nat.and_le_right, nb_and y a⟩
theorem one_lt {s w i : Nat} (hs : s = 2 ^ w) (hi : i < w) : 1 * 2 ^ i < s := by
  subst hs
  rw [Nat.one_mul]
  exact Nat.pow_lt_pow_right (by omega) hi
theorem two_le {s w : Nat} (hs : s = 2 ^ w) (hw : 1 ≤ w) : 2 ≤ s := by
  subst hs
  exact Nat.pow_le_pow_right (n := 2) (by decide) hw
theorem set_x1 {s w a : Nat} (hs : s = 2 ^ w) (h2 : 2 ≤ s) (ha : a < s) : ∃ q, q < s ∧ nI (a ^^^ 1) = nI q := by
  subst hs
  exact ⟨_, Nat.xor_lt_two_pow ha (by omega), rfl⟩
theorem bit_w {v i w : Nat} (h : v < 2 ^ w) (h1 : v / 2 ^ i % 2 = 1) : i < w := by
  by_cases hi : i < w
  · exact hi
  · have h2 : v < 2 ^ i := Nat.lt_of_lt_of_le h (Nat.pow_le_pow_right (by decide) (by omega))
    rw [Nat.div_eq_of_lt h2] at h1
    exact absurd h1 (by decide)
theorem ix_lt {a b k w : Nat} (ha : a < b) (hk : k < w) : a * w + k < b * w := by
  have h1 : (a + 1) * w ≤ b * w := Nat.mul_le_mul_right w ha
  rw [Nat.succ_mul] at h1
  omega
def ev0 (f : Nat → Int32) (n : Nat) : Prop := ∀ j, j < n → j % 2 = 1 → f j = 0
def rgC (f : Nat → Int32) (n m B : Nat) : Prop := ∀ j, 0 < j → j < n → j < m → ∃ q, q < B ∧ f j = nI q
theorem rgC_0 {f : Nat → Int32} {m B : Nat} (h : ev0 f m) (hB : 1 ≤ B) : rgC f 2 m B := by
  intro j h0 h1 h2
  have e : j = 1 := by omega
  subst e
  exact ⟨0, by omega, h 1 h2 rfl⟩
theorem ev0_up {f g : Nat → Int32} {n k : Nat} {v : Int32} (h : ev0 f n) (hk : k < 2 ^ 31) (h2 : k % 2 = 0) (e : upd f (Int32.toNatClampNeg (nI k)) v = g) : ev0 g n := by
  intro j hj hj2
  subst e
  rw [nI_clamp hk, pk_un (by omega)]
  exact h j hj hj2
theorem rgC_up {f g : Nat → Int32} {m B k q : Nat} (h : rgC f k m B) (h9 : ev0 f m) (hB : 1 ≤ B) (hk : k < 2 ^ 31) (h2 : k % 2 = 0) (hq : q < B) (e : upd f (Int32.toNatClampNeg (nI k)) (nI q) = g) : rgC g (k + 2) m B := by
  intro j h0 h1 h3
  subst e
  rw [nI_clamp hk]
  by_cases hjk : j = k
  · subst hjk; exact ⟨q, hq, by rw [pk_us]⟩
  · rw [pk_un hjk]
    by_cases hj : j < k
    · exact h j h0 hj h3
    · exact ⟨0, by omega, h9 j h3 (by omega)⟩
theorem rgC_P {f : Nat → Int32} {n m B : Nat} (h : rgC f n m B) (h1 : B ≤ n) (h2 : B ≤ m) : rgP f B B := fun j h0 hj => h j h0 (by omega) (by omega)
theorem ev0_z {n : Nat} : ev0 (fun _ => 0) n := fun _ _ _ => rfl

set_option maxHeartbeats 4000000 in
set_option maxRecDepth 100000 in
theorem c_X10_low2 (l : Launch) (D : va_G) (cB cI cJ cS cZ cO : ClassId) (sz : Nat) (bt : Nat) (w : Nat) (hbt : bt < 2 ^ w) (hb31 : bt < 2147483648) (hw : w ≤ 24) : Met l yX10_lowest wsX10_lowest ({ frames := 1, cells := 0, slots := 0, locals := 21 }) (xPre D (tyL cB cI cJ cS cZ cO) [] sz [.int (nI bt)]) (xQi D (tyL cB cI cJ cS cZ cO) (va_A [] sz) (fun (r : Int32) (u : va_W) => u = [] ∧ (r = -1 ∨ ∃ q, q < w ∧ r = nI q))) 0 0 (va_A [] sz) := by
  refine Met.ofW (cc := cX10_lowest) (maxL := 1) (ret := (some .int)) (by decide) rfl ?_
  intro p e s m args below meth c s₁ B hml hv
  obtain ⟨rfl, hsz, hP, hK, hD0, hN⟩ := hv
  have hx := B.exec
  have hb := B.bytes
  have hr := B.returns
  have hts := atoms_spec (ws := wsX10_lowest) B.pre
  have hown : s.vm.findClass RX10 = some m.cls := findClass_of_methodNamed B.named
  have hlocks := B.notSynchronized
  subst hsz
  have hD := hD0.self (sz := s.heap.size)
  generalize hAe : va_A [] s.heap.size = A at hD ⊢
  have hA : ∀ q : Nat, s.heap.size ≤ q → A q := fun q h => by rw [← hAe]; exact Or.inr h
  have hS : va_S A s.heap s.heap [] := va_S.rf
  have hP : va_P D vwCl [] s.heap := hP
  have hl := lv_entry ([.int (nI bt)]) (n := 1) (Nat.le_of_ble_eq_true rfl)
  rw [lg_entry_eq]
  generalize (lg_sl ([.int (nI bt)]) ++ List.replicate (1 - (lg_sl ([.int (nI bt)])).length) Slot.unset).toArray = ls at hl ⊢
  have hl : lv_has ls 1 [(0, .int (nI bt))] := hl
  refine lv_iload_n hx hb dX10_lowest_0 rfl (lv_at hl 0 rfl) ?_
  refine lv_if_ne (tgt := 8) hx hb dX10_lowest_1 (by decide) (fun c_1 => ?_) (fun c_1 => ?_)
  · have dc_1 : ¬ bt = 0 := fun h => c_1 ((nI_eq (a := bt) (b := 0) (by omega) (by omega)).mpr h)
    refine lv_iload_n hx hb dX10_lowest_8 rfl (lv_at hl 0 rfl) ?_
    refine xCi (wr := []) (win := []) hP hD hS hA [] [] rfl rfl (by decide) (by decide) (va_runS (As := [.int (nI bt)]) (rest := []) ⟨hx, hb, hml, hown, hts⟩ (c_J6_ntz l D cB cI cJ cS cZ cO s.heap.size bt w (by omega) hbt hw) (va_cwS 1 hts gX10_lowest_J6_numberOfTrailingZeros_0f7a4 rfl rfl rfl (by decide +kernel) ⟨Nat.le_of_ble_eq_true rfl, Nat.le_of_ble_eq_true rfl⟩) (xPreS (win := []) hN hK hP hD [] (by decide) rfl) rfl rfl hl.1 rfl (lv_room (Nat.le_of_ble_eq_true rfl)) dX10_lowest_9 ⟨Nat.le_of_ble_eq_true rfl, Nat.le_of_ble_eq_true rfl⟩) (fun r0 w0 H locs hw hP hD hS => ?_)
    obtain ⟨rr_2, rfl, rfl, hf_3⟩ := hw
    have hP : va_P D vwCl [] H := hP
    have hD : va_D A [] := hD
    have hP9 := hP.sub (ws' := []) [] rfl
    have hD9 := hD.sub (ws' := []) [] (by decide) rfl
    refine W.widen (k := 0) (n := 0) (Nat.le_of_ble_eq_true rfl) (Nat.le_of_ble_eq_true rfl) ?_
    exact W.iret (v := nI rr_2) hx hb hr (fun tz htz hWz => ⟨⟨nI rr_2, [], rfl, ⟨rfl, (Or.inr ⟨_, hf_3, rfl⟩)⟩, by rw [htz]; exact hP9, va_K.moved hWz.alike hK, hD9⟩, hS.F htz⟩) hS.2.2 dX10_lowest_12
  · have dc_1 : bt = 0 := (nI_eq (a := bt) (b := 0) (by omega) (by omega)).mp c_1
    refine lv_iconst (v := (-1)) hx hb dX10_lowest_4 (by decide) ?_
    refine lv_goto (tgt := 12) hx hb dX10_lowest_5 (by decide) ?_
    have hP9 := hP.sub (ws' := []) [] rfl
    have hD9 := hD.sub (ws' := []) [] (by decide) rfl
    refine W.widen (k := 0) (n := 0) (Nat.le_of_ble_eq_true rfl) (Nat.le_of_ble_eq_true rfl) ?_
    exact W.iret (v := (-1)) hx hb hr (fun tz htz hWz => ⟨⟨(-1), [], rfl, ⟨rfl, (Or.inl rfl)⟩, by rw [htz]; exact hP9, va_K.moved hWz.alike hK, hD9⟩, hS.F htz⟩) hS.2.2 dX10_lowest_12

set_option maxHeartbeats 4000000 in
set_option maxRecDepth 100000 in
theorem c_X6_drawn (l : Launch) (D : va_G) (cB cI cJ cS cZ cO : ClassId) (sz : Nat) (o : Nat) (x : Int32) (p_said : Nat) (p_latest : Int32) (p_spoken : Int32) (p_earned : Int32) (p_dn : Nat) (p_w : Int32) (p_kept : Int32) : Met l yX6_drawn wsX6_drawn ({ frames := 2, cells := 0, slots := 0, locals := 41 }) (xPre D (tyL cB cI cJ cS cZ cO) [(o, .inr (6, [.ref p_said, .int p_latest, .int p_spoken, .int p_earned, .int (nI p_dn), .int p_w, .int p_kept]))] sz [.ref o, .int x]) (xQi D (tyL cB cI cJ cS cZ cO) (va_A [(o, .inr (6, [.ref p_said, .int p_latest, .int p_spoken, .int p_earned, .int (nI p_dn), .int p_w, .int p_kept]))] sz) (fun (r : Int32) (u : va_W) => ∃ w2 : Int32, u = [(o, .inr (6, [.ref p_said, .int p_latest, .int p_spoken, .int p_earned, .int (nI p_dn), .int w2, .int p_kept]))])) 0 0 (va_A [(o, .inr (6, [.ref p_said, .int p_latest, .int p_spoken, .int p_earned, .int (nI p_dn), .int p_w, .int p_kept]))] sz) := by
  refine Met.ofW (cc := cX6_drawn) (maxL := 6) (ret := (some .int)) (by decide) rfl ?_
  intro p e s m args below meth c s₁ B hml hv
  obtain ⟨rfl, hsz, hP, hK, hD0, hN⟩ := hv
  have hx := B.exec
  have hb := B.bytes
  have hr := B.returns
  have hts := atoms_spec (ws := wsX6_drawn) B.pre
  have hown : s.vm.findClass RX6 = some m.cls := findClass_of_methodNamed B.named
  have hlocks := B.notSynchronized
  subst hsz
  have hD := hD0.self (sz := s.heap.size)
  generalize hAe : va_A [(o, .inr (6, [.ref p_said, .int p_latest, .int p_spoken, .int p_earned, .int (nI p_dn), .int p_w, .int p_kept]))] s.heap.size = A at hD ⊢
  have hA : ∀ q : Nat, s.heap.size ≤ q → A q := fun q h => by rw [← hAe]; exact Or.inr h
  have hS : va_S A s.heap s.heap [] := va_S.rf
  have hP : va_P D vwCl [(o, .inr (6, [.ref p_said, .int p_latest, .int p_spoken, .int p_earned, .int (nI p_dn), .int p_w, .int p_kept]))] s.heap := hP
  have hl := lv_entry ([.ref o, .int x]) (n := 6) (Nat.le_of_ble_eq_true rfl)
  rw [lg_entry_eq]
  generalize (lg_sl ([.ref o, .int x]) ++ List.replicate (6 - (lg_sl ([.ref o, .int x])).length) Slot.unset).toArray = ls at hl ⊢
  have hl : lv_has ls 6 [(0, .ref o), (1, .int x)] := hl
  refine lv_iload_n hx hb dX6_drawn_0 rfl (lv_at hl 1 rfl) ?_
  refine xCi (wr := [(o, .inr (6, [.ref p_said, .int p_latest, .int p_spoken, .int p_earned, .int (nI p_dn), .int p_w, .int p_kept]))]) (win := []) hP hD hS hA [] [0] rfl rfl (by decide) (by decide) (va_runS (As := [.int x]) (rest := []) ⟨hx, hb, hml, hown, hts⟩ (c_J6_bitCount_0f7a4 l D cB cI cJ cS cZ cO s.heap.size x ) (va_cwS 1 hts gX6_drawn_J6_bitCount_0f7a4 rfl rfl rfl (by decide +kernel) ⟨Nat.le_of_ble_eq_true rfl, Nat.le_of_ble_eq_true rfl⟩) (xPreS (win := []) hN hK hP hD [] (by decide) rfl) rfl rfl hl.1 rfl (lv_room (Nat.le_of_ble_eq_true rfl)) dX6_drawn_1 ⟨Nat.le_of_ble_eq_true rfl, Nat.le_of_ble_eq_true rfl⟩) (fun r_1 w0 H locs hw hP hD hS => ?_)
  subst hw
  have hP : va_P D vwCl [(o, .inr (6, [.ref p_said, .int p_latest, .int p_spoken, .int p_earned, .int (nI p_dn), .int p_w, .int p_kept]))] H := hP
  have hD : va_D A [(o, .inr (6, [.ref p_said, .int p_latest, .int p_spoken, .int p_earned, .int (nI p_dn), .int p_w, .int p_kept]))] := hD
  refine lv_istore_n (lv' := [(2, .int r_1), (0, .ref o), (1, .int x)]) hx hb dX6_drawn_4 rfl hl (by decide) rfl (fun ls hl => ?_)
  refine lv_iload_n hx hb dX6_drawn_5 rfl (lv_at hl 0 rfl) ?_
  refine lv_if_ne (tgt := 11) hx hb dX6_drawn_6 (by decide) (fun c_2 => ?_) (fun c_2 => ?_)
  · refine lv_aload_n hx hb dX6_drawn_11 rfl (lv_at hl 1 rfl) ?_
    refine lv_aload_n hx hb dX6_drawn_12 rfl (lv_at hl 1 rfl) ?_
    refine va_get (D := D) (ci := 6) (v := .int p_w) (C := RX6) (T := TX6) (N := 7) hx hb hts (by decide +kernel) hown hK hP 0 rfl rfl 5 (by decide) (hts (.fieldLink RX6 19 "LastLetter$Talk" "w" "I") (by decide +kernel)) (fun _ h9 => h9) rfl dX6_drawn_13 ?_
    refine lv_ldc (v := 1103515245) hx hb hown (hts (.constant RX6 100 1103515245) (by decide +kernel)) dX6_drawn_16 ?_
    refine lv_imul hx hb dX6_drawn_18 ?_
    refine lv_sipush (v := 12345) hx hb dX6_drawn_19 (by decide) ?_
    refine lv_iadd hx hb dX6_drawn_22 ?_
    refine lv_topi (fun f_3 ef_3 => ?_)
    refine va_put (D := D) (ci := 6) (v := .int f_3) (ty := .int) (C := RX6) (T := TX6) (N := 7) hx hb hts (by decide +kernel) tyX6 tyX6_ok nmX6 hown hK hP hD hS 0 rfl rfl 5 (by decide) (hts (.fieldLink RX6 19 "LastLetter$Talk" "w" "I") (by decide +kernel)) (fun _ h9 => h9) rfl (by decide +kernel) rfl rfl (Nat.le_of_ble_eq_true rfl) dX6_drawn_23 (fun H locs hP hD hS => ?_)
    have hP : va_P D vwCl [(o, .inr (6, [.ref p_said, .int p_latest, .int p_spoken, .int p_earned, .int (nI p_dn), .int f_3, .int p_kept]))] H := hP
    have hD : va_D A [(o, .inr (6, [.ref p_said, .int p_latest, .int p_spoken, .int p_earned, .int (nI p_dn), .int f_3, .int p_kept]))] := hD
    refine lv_aload_n hx hb dX6_drawn_26 rfl (lv_at hl 1 rfl) ?_
    refine va_get (D := D) (ci := 6) (v := .int f_3) (C := RX6) (T := TX6) (N := 7) hx hb hts (by decide +kernel) hown hK hP 0 rfl rfl 5 (by decide) (hts (.fieldLink RX6 19 "LastLetter$Talk" "w" "I") (by decide +kernel)) (fun _ h9 => h9) rfl dX6_drawn_27 ?_
    refine lv_bipush (v := 16) hx hb dX6_drawn_30 (by decide) ?_
    refine lv_iushr (v := (f_3.toUInt32 >>> (Int32.toUInt32 16 &&& Int32.toUInt32 31)).toInt32) hx hb dX6_drawn_32 rfl ?_
    refine lv_iload_n hx hb dX6_drawn_33 rfl (lv_at hl 0 rfl) ?_
    refine lv_irem hx hb dX6_drawn_34 c_2 ?_
    refine lv_topi (fun v_4 ev_4 => ?_)
    refine lv_istore_n (lv' := [(3, .int v_4), (2, .int r_1), (0, .ref o), (1, .int x)]) hx hb dX6_drawn_35 rfl hl (by decide) rfl (fun ls hl => ?_)
    refine lv_iload_n hx hb dX6_drawn_36 rfl (lv_at hl 3 rfl) ?_
    refine lv_istore (lv' := [(4, .int x), (3, .int v_4), (2, .int r_1), (0, .ref o), (1, .int x)]) hx hb dX6_drawn_37 hl (by decide) rfl (fun ls hl => ?_)
    refine lv_iconst (v := 0) hx hb dX6_drawn_39 (by decide) ?_
    refine lv_istore (lv' := [(5, .int 0), (4, .int x), (3, .int v_4), (2, .int r_1), (0, .ref o), (1, .int x)]) hx hb dX6_drawn_40 hl (by decide) rfl (fun ls hl => ?_)
    refine xb_wh (fun (n9 : Nat) H locs ls => ∃ i : Nat, ∃ rs : Int32, (2147483648 - i) = n9 ∧ va_P D vwCl [(o, .inr (6, [.ref p_said, .int p_latest, .int p_spoken, .int p_earned, .int (nI p_dn), .int f_3, .int p_kept]))] H ∧ va_D A [(o, .inr (6, [.ref p_said, .int p_latest, .int p_spoken, .int p_earned, .int (nI p_dn), .int f_3, .int p_kept]))] ∧ va_S A s.heap H locs ∧ lv_has ls 6 [(5, .int (nI i)), (4, .int rs), (3, .int v_4), (2, .int r_1), (0, .ref o), (1, .int x)] ∧ (i < 2147483648)) ⟨0, x, rfl, hP, hD, hS, lv_sub hl [0, 1, 2, 3, 4, 5] rfl, (by decide)⟩ (fun n9 H locs ls hI kk_42 => ?_)
    obtain ⟨i, rs, hn_42, hP, hD, hS, hl, hF_h_5⟩ := hI
    refine lv_iload hx hb dX6_drawn_42 (lv_at hl 0 rfl) ?_
    refine lv_iload_n hx hb dX6_drawn_44 rfl (lv_at hl 2 rfl) ?_
    refine lv_icmp_ge (tgt := 63) hx hb dX6_drawn_45 (by decide) (fun c_6 => ?_) (fun c_6 => ?_)
    · refine lv_iload hx hb dX6_drawn_63 (lv_at hl 1 rfl) ?_
      refine xCi (wr := [(o, .inr (6, [.ref p_said, .int p_latest, .int p_spoken, .int p_earned, .int (nI p_dn), .int f_3, .int p_kept]))]) (win := []) hP hD hS hA [] [0] rfl rfl (by decide) (by decide) (va_runSN (As := [.int rs]) (rest := []) ⟨hx, hb, hml, hown, hts⟩ (c_X10_lowest l D cB cI cJ cS cZ cO H.size rs ) ⟨va_cnB 1 hts gX6_drawn_X10_lowest_n101 rfl rfl rfl (hN.2.1 (RX6, 101, yX10_lowest, RX10) (by decide +kernel)) (hts (.initialized RX10) (by decide +kernel)) (by decide +kernel) ⟨Nat.le_of_ble_eq_true rfl, Nat.le_of_ble_eq_true rfl⟩, hts (.static yX10_lowest) (by decide +kernel), trivial⟩ (xPreS (win := []) hN hK hP hD [] (by decide) rfl) rfl rfl hl.1 rfl (lv_room (Nat.le_of_ble_eq_true rfl)) dX6_drawn_65 ⟨Nat.le_of_ble_eq_true rfl, Nat.le_of_ble_eq_true rfl⟩) (fun r_7 w0 H locs hw hP hD hS => ?_)
      subst hw
      have hP : va_P D vwCl [(o, .inr (6, [.ref p_said, .int p_latest, .int p_spoken, .int p_earned, .int (nI p_dn), .int f_3, .int p_kept]))] H := hP
      have hD : va_D A [(o, .inr (6, [.ref p_said, .int p_latest, .int p_spoken, .int p_earned, .int (nI p_dn), .int f_3, .int p_kept]))] := hD
      have hP9 := hP.sub (ws' := [(o, .inr (6, [.ref p_said, .int p_latest, .int p_spoken, .int p_earned, .int (nI p_dn), .int f_3, .int p_kept]))]) [0] rfl
      have hD9 := hD.sub (ws' := [(o, .inr (6, [.ref p_said, .int p_latest, .int p_spoken, .int p_earned, .int (nI p_dn), .int f_3, .int p_kept]))]) [0] (by decide) rfl
      refine W.widen (k := 0) (n := 0) (Nat.le_of_ble_eq_true rfl) (Nat.le_of_ble_eq_true rfl) ?_
      exact W.iret (v := r_7) hx hb hr (fun tz htz hWz => ⟨⟨r_7, [(o, .inr (6, [.ref p_said, .int p_latest, .int p_spoken, .int p_earned, .int (nI p_dn), .int f_3, .int p_kept]))], rfl, ⟨f_3, rfl⟩, by rw [htz]; exact hP9, va_K.moved hWz.alike hK, hD9⟩, hS.F htz⟩) hS.2.2 dX6_drawn_68
    · refine lv_iload hx hb dX6_drawn_48 (lv_at hl 1 rfl) ?_
      refine lv_iload hx hb dX6_drawn_50 (lv_at hl 1 rfl) ?_
      refine lv_iconst (v := 1) hx hb dX6_drawn_52 (by decide) ?_
      refine lv_isub hx hb dX6_drawn_53 ?_
      refine lv_iand hx hb dX6_drawn_54 ?_
      refine lv_istore (lv' := [(4, .int (rs &&& (rs - 1))), (5, .int (nI i)), (3, .int v_4), (2, .int r_1), (0, .ref o), (1, .int x)]) hx hb dX6_drawn_55 hl (by decide) rfl (fun ls hl => ?_)
      refine lv_iinc (v := nI (i + 1)) (lv' := [(5, .int (nI (i + 1))), (4, .int (rs &&& (rs - 1))), (3, .int v_4), (2, .int r_1), (0, .ref o), (1, .int x)]) hx hb dX6_drawn_57 hl (k := 1) rfl (nI_1 i) (by decide) rfl (fun ls hl => ?_)
      refine lv_goto (tgt := 42) hx hb dX6_drawn_60 (by decide) ?_
      exact kk_42 _ _ _ _ (by rw [← hn_42]; omega) ⟨(i + 1), (rs &&& (rs - 1)), rfl, hP, hD, hS, lv_sub hl [0, 1, 2, 3, 4, 5] rfl, (lt_any hF_h_5 c_6)⟩
  · refine lv_iconst (v := (-1)) hx hb dX6_drawn_9 (by decide) ?_
    have hP9 := hP.sub (ws' := [(o, .inr (6, [.ref p_said, .int p_latest, .int p_spoken, .int p_earned, .int (nI p_dn), .int p_w, .int p_kept]))]) [0] rfl
    have hD9 := hD.sub (ws' := [(o, .inr (6, [.ref p_said, .int p_latest, .int p_spoken, .int p_earned, .int (nI p_dn), .int p_w, .int p_kept]))]) [0] (by decide) rfl
    refine W.widen (k := 0) (n := 0) (Nat.le_of_ble_eq_true rfl) (Nat.le_of_ble_eq_true rfl) ?_
    exact W.iret (v := (-1)) hx hb hr (fun tz htz hWz => ⟨⟨(-1), [(o, .inr (6, [.ref p_said, .int p_latest, .int p_spoken, .int p_earned, .int (nI p_dn), .int p_w, .int p_kept]))], rfl, ⟨p_w, rfl⟩, by rw [htz]; exact hP9, va_K.moved hWz.alike hK, hD9⟩, hS.F htz⟩) hS.2.2 dX6_drawn_10

set_option maxHeartbeats 4000000 in
set_option maxRecDepth 100000 in
theorem c_X6_choose (l : Launch) (D : va_G) (cB cI cJ cS cZ cO : ClassId) (sz : Nat) (o : Nat) (t : Nat) (x : Int32) (p_said : Nat) (p_latest : Int32) (p_spoken : Int32) (p_earned : Int32) (p_dn : Nat) (p_w : Int32) (p_kept : Int32) (f_p_said : Nat → Int32) (k_name : Nat) (k_worth : Nat) (k_times : Nat) (k_first : Nat) (k_second : Nat) (k_beforeLast : Nat) (k_last : Nat) (k_errandOf : Nat) (k_errandAfter : Nat) (k_sound : Nat) (k_followers : Nat) (k_leaders : Nat) (w : Nat) (k_errands : Int32) (k_alikes : Int32) (k_law : Int32) (f_times : Nat → Int32) (f_followers : Nat → Int32) (f_worth : Nat → Int32) (hw : w ≤ 24) : Met l yX6_choose wsX6_choose ({ frames := 3, cells := 0, slots := 0, locals := 70 }) (xPre D (tyL cB cI cJ cS cZ cO) [(o, .inr (6, [.ref p_said, .int p_latest, .int p_spoken, .int p_earned, .int (nI p_dn), .int p_w, .int p_kept])), (p_said, .inl (cI, 24, .inl f_p_said)), (t, .inr (8, [.ref k_name, .ref k_worth, .ref k_times, .ref k_first, .ref k_second, .ref k_beforeLast, .ref k_last, .ref k_errandOf, .ref k_errandAfter, .ref k_sound, .ref k_followers, .ref k_leaders, .int (nI w), .int k_errands, .int k_alikes, .int k_law])), (k_times, .inl (cI, 24, .inl f_times)), (k_followers, .inl (cI, 24, .inl f_followers)), (k_worth, .inl (cI, 24, .inl f_worth))] sz [.ref o, .ref t, .int x]) (xQi D (tyL cB cI cJ cS cZ cO) (va_A [(o, .inr (6, [.ref p_said, .int p_latest, .int p_spoken, .int p_earned, .int (nI p_dn), .int p_w, .int p_kept])), (p_said, .inl (cI, 24, .inl f_p_said)), (t, .inr (8, [.ref k_name, .ref k_worth, .ref k_times, .ref k_first, .ref k_second, .ref k_beforeLast, .ref k_last, .ref k_errandOf, .ref k_errandAfter, .ref k_sound, .ref k_followers, .ref k_leaders, .int (nI w), .int k_errands, .int k_alikes, .int k_law])), (k_times, .inl (cI, 24, .inl f_times)), (k_followers, .inl (cI, 24, .inl f_followers)), (k_worth, .inl (cI, 24, .inl f_worth))] sz) (fun (r : Int32) (u : va_W) => ∃ w2 : Int32, u = [(o, .inr (6, [.ref p_said, .int p_latest, .int p_spoken, .int p_earned, .int (nI p_dn), .int w2, .int p_kept])), (p_said, .inl (cI, 24, .inl f_p_said)), (t, .inr (8, [.ref k_name, .ref k_worth, .ref k_times, .ref k_first, .ref k_second, .ref k_beforeLast, .ref k_last, .ref k_errandOf, .ref k_errandAfter, .ref k_sound, .ref k_followers, .ref k_leaders, .int (nI w), .int k_errands, .int k_alikes, .int k_law])), (k_times, .inl (cI, 24, .inl f_times)), (k_followers, .inl (cI, 24, .inl f_followers)), (k_worth, .inl (cI, 24, .inl f_worth))])) 0 0 (va_A [(o, .inr (6, [.ref p_said, .int p_latest, .int p_spoken, .int p_earned, .int (nI p_dn), .int p_w, .int p_kept])), (p_said, .inl (cI, 24, .inl f_p_said)), (t, .inr (8, [.ref k_name, .ref k_worth, .ref k_times, .ref k_first, .ref k_second, .ref k_beforeLast, .ref k_last, .ref k_errandOf, .ref k_errandAfter, .ref k_sound, .ref k_followers, .ref k_leaders, .int (nI w), .int k_errands, .int k_alikes, .int k_law])), (k_times, .inl (cI, 24, .inl f_times)), (k_followers, .inl (cI, 24, .inl f_followers)), (k_worth, .inl (cI, 24, .inl f_worth))] sz) := by
  refine Met.ofW (cc := cX6_choose) (maxL := 8) (ret := (some .int)) (by decide) rfl ?_
  intro p e s m args below meth c s₁ B hml hv
  obtain ⟨rfl, hsz, hP, hK, hD0, hN⟩ := hv
  have hx := B.exec
  have hb := B.bytes
  have hr := B.returns
  have hts := atoms_spec (ws := wsX6_choose) B.pre
  have hown : s.vm.findClass RX6 = some m.cls := findClass_of_methodNamed B.named
  have hlocks := B.notSynchronized
  subst hsz
  have hD := hD0.self (sz := s.heap.size)
  generalize hAe : va_A [(o, .inr (6, [.ref p_said, .int p_latest, .int p_spoken, .int p_earned, .int (nI p_dn), .int p_w, .int p_kept])), (p_said, .inl (cI, 24, .inl f_p_said)), (t, .inr (8, [.ref k_name, .ref k_worth, .ref k_times, .ref k_first, .ref k_second, .ref k_beforeLast, .ref k_last, .ref k_errandOf, .ref k_errandAfter, .ref k_sound, .ref k_followers, .ref k_leaders, .int (nI w), .int k_errands, .int k_alikes, .int k_law])), (k_times, .inl (cI, 24, .inl f_times)), (k_followers, .inl (cI, 24, .inl f_followers)), (k_worth, .inl (cI, 24, .inl f_worth))] s.heap.size = A at hD ⊢
  have hA : ∀ q : Nat, s.heap.size ≤ q → A q := fun q h => by rw [← hAe]; exact Or.inr h
  have hS : va_S A s.heap s.heap [] := va_S.rf
  have hP : va_P D vwCl [(o, .inr (6, [.ref p_said, .int p_latest, .int p_spoken, .int p_earned, .int (nI p_dn), .int p_w, .int p_kept])), (p_said, .inl (cI, 24, .inl f_p_said)), (t, .inr (8, [.ref k_name, .ref k_worth, .ref k_times, .ref k_first, .ref k_second, .ref k_beforeLast, .ref k_last, .ref k_errandOf, .ref k_errandAfter, .ref k_sound, .ref k_followers, .ref k_leaders, .int (nI w), .int k_errands, .int k_alikes, .int k_law])), (k_times, .inl (cI, 24, .inl f_times)), (k_followers, .inl (cI, 24, .inl f_followers)), (k_worth, .inl (cI, 24, .inl f_worth))] s.heap := hP
  have hl := lv_entry ([.ref o, .ref t, .int x]) (n := 8) (Nat.le_of_ble_eq_true rfl)
  rw [lg_entry_eq]
  generalize (lg_sl ([.ref o, .ref t, .int x]) ++ List.replicate (8 - (lg_sl ([.ref o, .ref t, .int x])).length) Slot.unset).toArray = ls at hl ⊢
  have hl : lv_has ls 8 [(0, .ref o), (1, .ref t), (2, .int x)] := hl
  refine lv_aload_n hx hb dX6_choose_0 rfl (lv_at hl 0 rfl) ?_
  refine lv_aload_n hx hb dX6_choose_1 rfl (lv_at hl 1 rfl) ?_
  refine xCi (wr := [(k_worth, .inl (cI, 24, .inl f_worth))]) (win := [(o, .inr (6, [.ref p_said, .int p_latest, .int p_spoken, .int p_earned, .int (nI p_dn), .int p_w, .int p_kept])), (p_said, .inl (cI, 24, .inl f_p_said)), (t, .inr (8, [.ref k_name, .ref k_worth, .ref k_times, .ref k_first, .ref k_second, .ref k_beforeLast, .ref k_last, .ref k_errandOf, .ref k_errandAfter, .ref k_sound, .ref k_followers, .ref k_leaders, .int (nI w), .int k_errands, .int k_alikes, .int k_law])), (k_times, .inl (cI, 24, .inl f_times)), (k_followers, .inl (cI, 24, .inl f_followers))]) hP hD hS hA [0, 1, 2, 3, 4] [5] rfl rfl (by decide) (by decide) (va_runV (As := [.ref t]) (rest := []) ⟨hx, hb, hml, hown, hts⟩ (c_X6_open l D cB cI cJ cS cZ cO s.heap.size o t p_said p_latest p_spoken p_earned p_dn p_w p_kept f_p_said k_name k_worth k_times k_first k_second k_beforeLast k_last k_errandOf k_errandAfter k_sound k_followers k_leaders w k_errands k_alikes k_law f_times f_followers (by first | assumption | omega | decide)) (cwV 1 hts gX6_choose_X6_open rfl rfl rfl (by decide +kernel) ⟨Nat.le_of_ble_eq_true rfl, Nat.le_of_ble_eq_true rfl⟩) (xPreV (win := [(o, .inr (6, [.ref p_said, .int p_latest, .int p_spoken, .int p_earned, .int (nI p_dn), .int p_w, .int p_kept])), (p_said, .inl (cI, 24, .inl f_p_said)), (t, .inr (8, [.ref k_name, .ref k_worth, .ref k_times, .ref k_first, .ref k_second, .ref k_beforeLast, .ref k_last, .ref k_errandOf, .ref k_errandAfter, .ref k_sound, .ref k_followers, .ref k_leaders, .int (nI w), .int k_errands, .int k_alikes, .int k_law])), (k_times, .inl (cI, 24, .inl f_times)), (k_followers, .inl (cI, 24, .inl f_followers))]) hN hK hP hD [0, 1, 2, 3, 4] (by decide) rfl 0 6 rfl rfl rfl) rfl rfl hl.1 rfl (lv_room (Nat.le_of_ble_eq_true rfl)) dX6_choose_2 ⟨Nat.le_of_ble_eq_true rfl, Nat.le_of_ble_eq_true rfl⟩) (fun r_1 w0 H locs hw hP hD hS => ?_)
  subst hw
  have hP : va_P D vwCl [(k_worth, .inl (cI, 24, .inl f_worth)), (o, .inr (6, [.ref p_said, .int p_latest, .int p_spoken, .int p_earned, .int (nI p_dn), .int p_w, .int p_kept])), (p_said, .inl (cI, 24, .inl f_p_said)), (t, .inr (8, [.ref k_name, .ref k_worth, .ref k_times, .ref k_first, .ref k_second, .ref k_beforeLast, .ref k_last, .ref k_errandOf, .ref k_errandAfter, .ref k_sound, .ref k_followers, .ref k_leaders, .int (nI w), .int k_errands, .int k_alikes, .int k_law])), (k_times, .inl (cI, 24, .inl f_times)), (k_followers, .inl (cI, 24, .inl f_followers))] H := hP
  have hD : va_D A [(k_worth, .inl (cI, 24, .inl f_worth)), (o, .inr (6, [.ref p_said, .int p_latest, .int p_spoken, .int p_earned, .int (nI p_dn), .int p_w, .int p_kept])), (p_said, .inl (cI, 24, .inl f_p_said)), (t, .inr (8, [.ref k_name, .ref k_worth, .ref k_times, .ref k_first, .ref k_second, .ref k_beforeLast, .ref k_last, .ref k_errandOf, .ref k_errandAfter, .ref k_sound, .ref k_followers, .ref k_leaders, .int (nI w), .int k_errands, .int k_alikes, .int k_law])), (k_times, .inl (cI, 24, .inl f_times)), (k_followers, .inl (cI, 24, .inl f_followers))] := hD
  refine lv_istore_n (lv' := [(3, .int r_1), (0, .ref o), (1, .ref t), (2, .int x)]) hx hb dX6_choose_5 rfl hl (by decide) rfl (fun ls hl => ?_)
  refine lv_iload_n hx hb dX6_choose_6 rfl (lv_at hl 3 rfl) ?_
  refine lv_iconst (v := 3) hx hb dX6_choose_7 (by decide) ?_
  refine lv_icmp_ne (tgt := 17) hx hb dX6_choose_8 (by decide) (fun c_2 => ?_) (fun c_2 => ?_)
  · refine lv_iconst (v := (-1)) hx hb dX6_choose_17 (by decide) ?_
    refine lv_istore (lv' := [(4, .int (-1)), (3, .int r_1), (0, .ref o), (1, .ref t), (2, .int x)]) hx hb dX6_choose_18 hl (by decide) rfl (fun ls hl => ?_)
    refine lv_iconst (v := 0) hx hb dX6_choose_20 (by decide) ?_
    refine lv_istore (lv' := [(5, .int 0), (4, .int (-1)), (3, .int r_1), (0, .ref o), (1, .ref t), (2, .int x)]) hx hb dX6_choose_21 hl (by decide) rfl (fun ls hl => ?_)
    refine lv_iconst (v := 0) hx hb dX6_choose_23 (by decide) ?_
    refine lv_istore (lv' := [(6, .int 0), (5, .int 0), (4, .int (-1)), (3, .int r_1), (0, .ref o), (1, .ref t), (2, .int x)]) hx hb dX6_choose_24 hl (by decide) rfl (fun ls hl => ?_)
    refine xb_wh (fun (n9 : Nat) H locs ls => ∃ i : Nat, ∃ be : Int32, ∃ br : Int32, (w - i) = n9 ∧ va_P D vwCl [(k_worth, .inl (cI, 24, .inl f_worth)), (o, .inr (6, [.ref p_said, .int p_latest, .int p_spoken, .int p_earned, .int (nI p_dn), .int p_w, .int p_kept])), (p_said, .inl (cI, 24, .inl f_p_said)), (t, .inr (8, [.ref k_name, .ref k_worth, .ref k_times, .ref k_first, .ref k_second, .ref k_beforeLast, .ref k_last, .ref k_errandOf, .ref k_errandAfter, .ref k_sound, .ref k_followers, .ref k_leaders, .int (nI w), .int k_errands, .int k_alikes, .int k_law])), (k_times, .inl (cI, 24, .inl f_times)), (k_followers, .inl (cI, 24, .inl f_followers))] H ∧ va_D A [(k_worth, .inl (cI, 24, .inl f_worth)), (o, .inr (6, [.ref p_said, .int p_latest, .int p_spoken, .int p_earned, .int (nI p_dn), .int p_w, .int p_kept])), (p_said, .inl (cI, 24, .inl f_p_said)), (t, .inr (8, [.ref k_name, .ref k_worth, .ref k_times, .ref k_first, .ref k_second, .ref k_beforeLast, .ref k_last, .ref k_errandOf, .ref k_errandAfter, .ref k_sound, .ref k_followers, .ref k_leaders, .int (nI w), .int k_errands, .int k_alikes, .int k_law])), (k_times, .inl (cI, 24, .inl f_times)), (k_followers, .inl (cI, 24, .inl f_followers))] ∧ va_S A s.heap H locs ∧ lv_has ls 8 [(6, .int (nI i)), (5, .int br), (4, .int be), (3, .int r_1), (0, .ref o), (1, .ref t), (2, .int x)] ∧ (i ≤ w)) ⟨0, (-1), 0, rfl, hP, hD, hS, lv_sub hl [0, 1, 2, 3, 4, 5, 6] rfl, (by first | assumption | omega)⟩ (fun n9 H locs ls hI kk_26 => ?_)
    obtain ⟨i, be, br, hn_26, hP, hD, hS, hl, hF_h_3⟩ := hI
    refine lv_iload hx hb dX6_choose_26 (lv_at hl 0 rfl) ?_
    refine lv_aload_n hx hb dX6_choose_28 rfl (lv_at hl 5 rfl) ?_
    refine va_getN (D := D) (ci := 8) (v := .int (nI w)) (C := RX8) (T := TX8) (N := 16) hx hb hts (by decide +kernel) hown hK hP 3 rfl rfl 12 (by decide) (va_Nw.use rfl (hN.1 (RX6, 62, RX8, "words", "I", RX10) (by decide +kernel))) (fun _ h9 => h9) rfl dX6_choose_29 ?_
    refine lv_icmp_ge (tgt := 81) hx hb dX6_choose_32 (by decide) (fun c_4 => ?_) (fun c_4 => ?_)
    · have dc_4 : w ≤ i := (nI_leI (a := w) (b := i) (by omega) (by omega)).mp c_4
      refine lv_iload hx hb dX6_choose_81 (lv_at hl 2 rfl) ?_
      have hP9 := hP.sub (ws' := [(o, .inr (6, [.ref p_said, .int p_latest, .int p_spoken, .int p_earned, .int (nI p_dn), .int p_w, .int p_kept])), (p_said, .inl (cI, 24, .inl f_p_said)), (t, .inr (8, [.ref k_name, .ref k_worth, .ref k_times, .ref k_first, .ref k_second, .ref k_beforeLast, .ref k_last, .ref k_errandOf, .ref k_errandAfter, .ref k_sound, .ref k_followers, .ref k_leaders, .int (nI w), .int k_errands, .int k_alikes, .int k_law])), (k_times, .inl (cI, 24, .inl f_times)), (k_followers, .inl (cI, 24, .inl f_followers)), (k_worth, .inl (cI, 24, .inl f_worth))]) [1, 2, 3, 4, 5, 0] rfl
      have hD9 := hD.sub (ws' := [(o, .inr (6, [.ref p_said, .int p_latest, .int p_spoken, .int p_earned, .int (nI p_dn), .int p_w, .int p_kept])), (p_said, .inl (cI, 24, .inl f_p_said)), (t, .inr (8, [.ref k_name, .ref k_worth, .ref k_times, .ref k_first, .ref k_second, .ref k_beforeLast, .ref k_last, .ref k_errandOf, .ref k_errandAfter, .ref k_sound, .ref k_followers, .ref k_leaders, .int (nI w), .int k_errands, .int k_alikes, .int k_law])), (k_times, .inl (cI, 24, .inl f_times)), (k_followers, .inl (cI, 24, .inl f_followers)), (k_worth, .inl (cI, 24, .inl f_worth))]) [1, 2, 3, 4, 5, 0] (by decide) rfl
      refine W.widen (k := 0) (n := 0) (Nat.le_of_ble_eq_true rfl) (Nat.le_of_ble_eq_true rfl) ?_
      exact W.iret (v := be) hx hb hr (fun tz htz hWz => ⟨⟨be, [(o, .inr (6, [.ref p_said, .int p_latest, .int p_spoken, .int p_earned, .int (nI p_dn), .int p_w, .int p_kept])), (p_said, .inl (cI, 24, .inl f_p_said)), (t, .inr (8, [.ref k_name, .ref k_worth, .ref k_times, .ref k_first, .ref k_second, .ref k_beforeLast, .ref k_last, .ref k_errandOf, .ref k_errandAfter, .ref k_sound, .ref k_followers, .ref k_leaders, .int (nI w), .int k_errands, .int k_alikes, .int k_law])), (k_times, .inl (cI, 24, .inl f_times)), (k_followers, .inl (cI, 24, .inl f_followers)), (k_worth, .inl (cI, 24, .inl f_worth))], rfl, ⟨p_w, rfl⟩, by rw [htz]; exact hP9, va_K.moved hWz.alike hK, hD9⟩, hS.F htz⟩) hS.2.2 dX6_choose_83
    · have dc_4 : ¬ w ≤ i := fun h => c_4 ((nI_leI (a := w) (b := i) (by omega) (by omega)).mpr h)
      refine lv_iload_n hx hb dX6_choose_35 rfl (lv_at hl 3 rfl) ?_
      refine lv_iload hx hb dX6_choose_36 (lv_at hl 0 rfl) ?_
      refine xCi (wr := [(k_worth, .inl (cI, 24, .inl f_worth)), (o, .inr (6, [.ref p_said, .int p_latest, .int p_spoken, .int p_earned, .int (nI p_dn), .int p_w, .int p_kept])), (p_said, .inl (cI, 24, .inl f_p_said)), (t, .inr (8, [.ref k_name, .ref k_worth, .ref k_times, .ref k_first, .ref k_second, .ref k_beforeLast, .ref k_last, .ref k_errandOf, .ref k_errandAfter, .ref k_sound, .ref k_followers, .ref k_leaders, .int (nI w), .int k_errands, .int k_alikes, .int k_law])), (k_times, .inl (cI, 24, .inl f_times)), (k_followers, .inl (cI, 24, .inl f_followers))]) (win := []) hP hD hS hA [] [0, 1, 2, 3, 4, 5] rfl rfl (by decide) (by decide) (va_runSN (As := [.int r_1, .int (nI i)]) (rest := []) ⟨hx, hb, hml, hown, hts⟩ (c_X10_isIn l D cB cI cJ cS cZ cO H.size r_1 (nI i) ) ⟨va_cnB 2 hts gX6_choose_X10_isIn_n65 rfl rfl rfl (hN.2.1 (RX6, 65, yX10_isIn, RX10) (by decide +kernel)) (hts (.initialized RX10) (by decide +kernel)) (by decide +kernel) ⟨Nat.le_of_ble_eq_true rfl, Nat.le_of_ble_eq_true rfl⟩, hts (.static yX10_isIn) (by decide +kernel), trivial⟩ (xPreS (win := []) hN hK hP hD [] (by decide) rfl) rfl rfl hl.1 rfl (lv_room (Nat.le_of_ble_eq_true rfl)) dX6_choose_38 ⟨Nat.le_of_ble_eq_true rfl, Nat.le_of_ble_eq_true rfl⟩) (fun r_5 w0 H locs hw hP hD hS => ?_)
      obtain ⟨rfl, hf_6⟩ := hw
      have hP : va_P D vwCl [(k_worth, .inl (cI, 24, .inl f_worth)), (o, .inr (6, [.ref p_said, .int p_latest, .int p_spoken, .int p_earned, .int (nI p_dn), .int p_w, .int p_kept])), (p_said, .inl (cI, 24, .inl f_p_said)), (t, .inr (8, [.ref k_name, .ref k_worth, .ref k_times, .ref k_first, .ref k_second, .ref k_beforeLast, .ref k_last, .ref k_errandOf, .ref k_errandAfter, .ref k_sound, .ref k_followers, .ref k_leaders, .int (nI w), .int k_errands, .int k_alikes, .int k_law])), (k_times, .inl (cI, 24, .inl f_times)), (k_followers, .inl (cI, 24, .inl f_followers))] H := hP
      have hD : va_D A [(k_worth, .inl (cI, 24, .inl f_worth)), (o, .inr (6, [.ref p_said, .int p_latest, .int p_spoken, .int p_earned, .int (nI p_dn), .int p_w, .int p_kept])), (p_said, .inl (cI, 24, .inl f_p_said)), (t, .inr (8, [.ref k_name, .ref k_worth, .ref k_times, .ref k_first, .ref k_second, .ref k_beforeLast, .ref k_last, .ref k_errandOf, .ref k_errandAfter, .ref k_sound, .ref k_followers, .ref k_leaders, .int (nI w), .int k_errands, .int k_alikes, .int k_law])), (k_times, .inl (cI, 24, .inl f_times)), (k_followers, .inl (cI, 24, .inl f_followers))] := hD
      refine lv_if_eq (tgt := 75) hx hb dX6_choose_41 (by decide) (fun c_7 => ?_) (fun c_7 => ?_)
      · refine lv_iinc (v := nI (i + 1)) (lv' := [(6, .int (nI (i + 1))), (5, .int br), (4, .int be), (3, .int r_1), (0, .ref o), (1, .ref t), (2, .int x)]) hx hb dX6_choose_75 hl (k := 0) rfl (nI_1 i) (by decide) rfl (fun ls hl => ?_)
        refine lv_goto (tgt := 26) hx hb dX6_choose_78 (by decide) ?_
        exact kk_26 _ _ _ _ (by rw [← hn_26]; omega) ⟨(i + 1), be, br, rfl, hP, hD, hS, lv_sub hl [0, 1, 2, 3, 4, 5, 6] rfl, (by first | assumption | omega)⟩
      · refine lv_aload_n hx hb dX6_choose_44 rfl (lv_at hl 4 rfl) ?_
        refine lv_aload_n hx hb dX6_choose_45 rfl (lv_at hl 5 rfl) ?_
        refine lv_iload_n hx hb dX6_choose_46 rfl (lv_at hl 6 rfl) ?_
        refine lv_iload hx hb dX6_choose_47 (lv_at hl 0 rfl) ?_
        refine xCi (wr := []) (win := [(o, .inr (6, [.ref p_said, .int p_latest, .int p_spoken, .int p_earned, .int (nI p_dn), .int p_w, .int p_kept])), (p_said, .inl (cI, 24, .inl f_p_said)), (t, .inr (8, [.ref k_name, .ref k_worth, .ref k_times, .ref k_first, .ref k_second, .ref k_beforeLast, .ref k_last, .ref k_errandOf, .ref k_errandAfter, .ref k_sound, .ref k_followers, .ref k_leaders, .int (nI w), .int k_errands, .int k_alikes, .int k_law])), (k_times, .inl (cI, 24, .inl f_times)), (k_followers, .inl (cI, 24, .inl f_followers)), (k_worth, .inl (cI, 24, .inl f_worth))]) hP hD hS hA [1, 2, 3, 4, 5, 0] [] rfl rfl (by decide) (by decide) (va_runV (As := [.ref t, .int x, .int (nI i)]) (rest := []) ⟨hx, hb, hml, hown, hts⟩ (c_X6_rank l D cB cI cJ cS cZ cO H.size o t x i p_said p_latest p_spoken p_earned p_dn p_w p_kept f_p_said k_name k_worth k_times k_first k_second k_beforeLast k_last k_errandOf k_errandAfter k_sound k_followers k_leaders w k_errands k_alikes k_law f_times f_followers f_worth (by first | assumption | omega | decide) (by first | assumption | omega | decide)) (cwV 3 hts gX6_choose_X6_rank rfl rfl rfl (by decide +kernel) ⟨Nat.le_of_ble_eq_true rfl, Nat.le_of_ble_eq_true rfl⟩) (xPreV (win := [(o, .inr (6, [.ref p_said, .int p_latest, .int p_spoken, .int p_earned, .int (nI p_dn), .int p_w, .int p_kept])), (p_said, .inl (cI, 24, .inl f_p_said)), (t, .inr (8, [.ref k_name, .ref k_worth, .ref k_times, .ref k_first, .ref k_second, .ref k_beforeLast, .ref k_last, .ref k_errandOf, .ref k_errandAfter, .ref k_sound, .ref k_followers, .ref k_leaders, .int (nI w), .int k_errands, .int k_alikes, .int k_law])), (k_times, .inl (cI, 24, .inl f_times)), (k_followers, .inl (cI, 24, .inl f_followers)), (k_worth, .inl (cI, 24, .inl f_worth))]) hN hK hP hD [1, 2, 3, 4, 5, 0] (by decide) rfl 1 6 rfl rfl rfl) rfl rfl hl.1 rfl (lv_room (Nat.le_of_ble_eq_true rfl)) dX6_choose_49 ⟨Nat.le_of_ble_eq_true rfl, Nat.le_of_ble_eq_true rfl⟩) (fun r_8 w0 H locs hw hP hD hS => ?_)
        subst hw
        have hP : va_P D vwCl [(o, .inr (6, [.ref p_said, .int p_latest, .int p_spoken, .int p_earned, .int (nI p_dn), .int p_w, .int p_kept])), (p_said, .inl (cI, 24, .inl f_p_said)), (t, .inr (8, [.ref k_name, .ref k_worth, .ref k_times, .ref k_first, .ref k_second, .ref k_beforeLast, .ref k_last, .ref k_errandOf, .ref k_errandAfter, .ref k_sound, .ref k_followers, .ref k_leaders, .int (nI w), .int k_errands, .int k_alikes, .int k_law])), (k_times, .inl (cI, 24, .inl f_times)), (k_followers, .inl (cI, 24, .inl f_followers)), (k_worth, .inl (cI, 24, .inl f_worth))] H := hP
        have hD : va_D A [(o, .inr (6, [.ref p_said, .int p_latest, .int p_spoken, .int p_earned, .int (nI p_dn), .int p_w, .int p_kept])), (p_said, .inl (cI, 24, .inl f_p_said)), (t, .inr (8, [.ref k_name, .ref k_worth, .ref k_times, .ref k_first, .ref k_second, .ref k_beforeLast, .ref k_last, .ref k_errandOf, .ref k_errandAfter, .ref k_sound, .ref k_followers, .ref k_leaders, .int (nI w), .int k_errands, .int k_alikes, .int k_law])), (k_times, .inl (cI, 24, .inl f_times)), (k_followers, .inl (cI, 24, .inl f_followers)), (k_worth, .inl (cI, 24, .inl f_worth))] := hD
        refine lv_istore (lv' := [(7, .int r_8), (6, .int (nI i)), (5, .int br), (4, .int be), (3, .int r_1), (0, .ref o), (1, .ref t), (2, .int x)]) hx hb dX6_choose_52 hl (by decide) rfl (fun ls hl => ?_)
        refine lv_iload hx hb dX6_choose_54 (lv_at hl 3 rfl) ?_
        refine lv_iconst (v := (-1)) hx hb dX6_choose_56 (by decide) ?_
        refine lv_icmp_eq (tgt := 67) hx hb dX6_choose_57 (by decide) (fun c_9 => ?_) (fun c_9 => ?_)
        · refine lv_iload hx hb dX6_choose_67 (lv_at hl 1 rfl) ?_
          refine lv_istore (lv' := [(4, .int (nI i)), (7, .int r_8), (6, .int (nI i)), (5, .int br), (3, .int r_1), (0, .ref o), (1, .ref t), (2, .int x)]) hx hb dX6_choose_69 hl (by decide) rfl (fun ls hl => ?_)
          refine lv_iload hx hb dX6_choose_71 (lv_at hl 1 rfl) ?_
          refine lv_istore (lv' := [(5, .int r_8), (4, .int (nI i)), (7, .int r_8), (6, .int (nI i)), (3, .int r_1), (0, .ref o), (1, .ref t), (2, .int x)]) hx hb dX6_choose_73 hl (by decide) rfl (fun ls hl => ?_)
          refine lv_iinc (v := nI (i + 1)) (lv' := [(6, .int (nI (i + 1))), (5, .int r_8), (4, .int (nI i)), (7, .int r_8), (3, .int r_1), (0, .ref o), (1, .ref t), (2, .int x)]) hx hb dX6_choose_75 hl (k := 3) rfl (nI_1 i) (by decide) rfl (fun ls hl => ?_)
          refine lv_goto (tgt := 26) hx hb dX6_choose_78 (by decide) ?_
          exact kk_26 _ _ _ _ (by rw [← hn_26]; omega) ⟨(i + 1), (nI i), r_8, rfl, hP.sub [5, 0, 1, 2, 3, 4] rfl, hD.sub [5, 0, 1, 2, 3, 4] (by decide) rfl, hS, lv_sub hl [0, 1, 2, 4, 5, 6, 7] rfl, (by first | assumption | omega)⟩
        · refine lv_iload hx hb dX6_choose_60 (lv_at hl 0 rfl) ?_
          refine lv_iload hx hb dX6_choose_62 (lv_at hl 2 rfl) ?_
          refine lv_icmp_le (tgt := 75) hx hb dX6_choose_64 (by decide) (fun c_10 => ?_) (fun c_10 => ?_)
          · refine lv_iinc (v := nI (i + 1)) (lv' := [(6, .int (nI (i + 1))), (7, .int r_8), (5, .int br), (4, .int be), (3, .int r_1), (0, .ref o), (1, .ref t), (2, .int x)]) hx hb dX6_choose_75 hl (k := 1) rfl (nI_1 i) (by decide) rfl (fun ls hl => ?_)
            refine lv_goto (tgt := 26) hx hb dX6_choose_78 (by decide) ?_
            exact kk_26 _ _ _ _ (by rw [← hn_26]; omega) ⟨(i + 1), be, br, rfl, hP.sub [5, 0, 1, 2, 3, 4] rfl, hD.sub [5, 0, 1, 2, 3, 4] (by decide) rfl, hS, lv_sub hl [0, 2, 3, 4, 5, 6, 7] rfl, (by first | assumption | omega)⟩
          · refine lv_iload hx hb dX6_choose_67 (lv_at hl 1 rfl) ?_
            refine lv_istore (lv' := [(4, .int (nI i)), (7, .int r_8), (6, .int (nI i)), (5, .int br), (3, .int r_1), (0, .ref o), (1, .ref t), (2, .int x)]) hx hb dX6_choose_69 hl (by decide) rfl (fun ls hl => ?_)
            refine lv_iload hx hb dX6_choose_71 (lv_at hl 1 rfl) ?_
            refine lv_istore (lv' := [(5, .int r_8), (4, .int (nI i)), (7, .int r_8), (6, .int (nI i)), (3, .int r_1), (0, .ref o), (1, .ref t), (2, .int x)]) hx hb dX6_choose_73 hl (by decide) rfl (fun ls hl => ?_)
            refine lv_iinc (v := nI (i + 1)) (lv' := [(6, .int (nI (i + 1))), (5, .int r_8), (4, .int (nI i)), (7, .int r_8), (3, .int r_1), (0, .ref o), (1, .ref t), (2, .int x)]) hx hb dX6_choose_75 hl (k := 3) rfl (nI_1 i) (by decide) rfl (fun ls hl => ?_)
            refine lv_goto (tgt := 26) hx hb dX6_choose_78 (by decide) ?_
            exact kk_26 _ _ _ _ (by rw [← hn_26]; omega) ⟨(i + 1), (nI i), r_8, rfl, hP.sub [5, 0, 1, 2, 3, 4] rfl, hD.sub [5, 0, 1, 2, 3, 4] (by decide) rfl, hS, lv_sub hl [0, 1, 2, 4, 5, 6, 7] rfl, (by first | assumption | omega)⟩
  · refine lv_aload_n hx hb dX6_choose_11 rfl (lv_at hl 1 rfl) ?_
    refine lv_iload_n hx hb dX6_choose_12 rfl (lv_at hl 0 rfl) ?_
    refine xCi (wr := [(k_worth, .inl (cI, 24, .inl f_worth)), (p_said, .inl (cI, 24, .inl f_p_said)), (t, .inr (8, [.ref k_name, .ref k_worth, .ref k_times, .ref k_first, .ref k_second, .ref k_beforeLast, .ref k_last, .ref k_errandOf, .ref k_errandAfter, .ref k_sound, .ref k_followers, .ref k_leaders, .int (nI w), .int k_errands, .int k_alikes, .int k_law])), (k_times, .inl (cI, 24, .inl f_times)), (k_followers, .inl (cI, 24, .inl f_followers))]) (win := [(o, .inr (6, [.ref p_said, .int p_latest, .int p_spoken, .int p_earned, .int (nI p_dn), .int p_w, .int p_kept]))]) hP hD hS hA [1] [0, 2, 3, 4, 5] rfl rfl (by decide) (by decide) (va_runV (As := [.int r_1]) (rest := []) ⟨hx, hb, hml, hown, hts⟩ (c_X6_drawn l D cB cI cJ cS cZ cO H.size o r_1 p_said p_latest p_spoken p_earned p_dn p_w p_kept ) (cwV 1 hts gX6_choose_X6_drawn rfl rfl rfl (by decide +kernel) ⟨Nat.le_of_ble_eq_true rfl, Nat.le_of_ble_eq_true rfl⟩) (xPreV (win := [(o, .inr (6, [.ref p_said, .int p_latest, .int p_spoken, .int p_earned, .int (nI p_dn), .int p_w, .int p_kept]))]) hN hK hP hD [1] (by decide) rfl 1 6 rfl rfl rfl) rfl rfl hl.1 rfl (lv_room (Nat.le_of_ble_eq_true rfl)) dX6_choose_13 ⟨Nat.le_of_ble_eq_true rfl, Nat.le_of_ble_eq_true rfl⟩) (fun r_11 w0 H locs hw hP hD hS => ?_)
    obtain ⟨w2_12, rfl⟩ := hw
    have hP : va_P D vwCl [(k_worth, .inl (cI, 24, .inl f_worth)), (p_said, .inl (cI, 24, .inl f_p_said)), (t, .inr (8, [.ref k_name, .ref k_worth, .ref k_times, .ref k_first, .ref k_second, .ref k_beforeLast, .ref k_last, .ref k_errandOf, .ref k_errandAfter, .ref k_sound, .ref k_followers, .ref k_leaders, .int (nI w), .int k_errands, .int k_alikes, .int k_law])), (k_times, .inl (cI, 24, .inl f_times)), (k_followers, .inl (cI, 24, .inl f_followers)), (o, .inr (6, [.ref p_said, .int p_latest, .int p_spoken, .int p_earned, .int (nI p_dn), .int w2_12, .int p_kept]))] H := hP
    have hD : va_D A [(k_worth, .inl (cI, 24, .inl f_worth)), (p_said, .inl (cI, 24, .inl f_p_said)), (t, .inr (8, [.ref k_name, .ref k_worth, .ref k_times, .ref k_first, .ref k_second, .ref k_beforeLast, .ref k_last, .ref k_errandOf, .ref k_errandAfter, .ref k_sound, .ref k_followers, .ref k_leaders, .int (nI w), .int k_errands, .int k_alikes, .int k_law])), (k_times, .inl (cI, 24, .inl f_times)), (k_followers, .inl (cI, 24, .inl f_followers)), (o, .inr (6, [.ref p_said, .int p_latest, .int p_spoken, .int p_earned, .int (nI p_dn), .int w2_12, .int p_kept]))] := hD
    have hP9 := hP.sub (ws' := [(o, .inr (6, [.ref p_said, .int p_latest, .int p_spoken, .int p_earned, .int (nI p_dn), .int w2_12, .int p_kept])), (p_said, .inl (cI, 24, .inl f_p_said)), (t, .inr (8, [.ref k_name, .ref k_worth, .ref k_times, .ref k_first, .ref k_second, .ref k_beforeLast, .ref k_last, .ref k_errandOf, .ref k_errandAfter, .ref k_sound, .ref k_followers, .ref k_leaders, .int (nI w), .int k_errands, .int k_alikes, .int k_law])), (k_times, .inl (cI, 24, .inl f_times)), (k_followers, .inl (cI, 24, .inl f_followers)), (k_worth, .inl (cI, 24, .inl f_worth))]) [5, 1, 2, 3, 4, 0] rfl
    have hD9 := hD.sub (ws' := [(o, .inr (6, [.ref p_said, .int p_latest, .int p_spoken, .int p_earned, .int (nI p_dn), .int w2_12, .int p_kept])), (p_said, .inl (cI, 24, .inl f_p_said)), (t, .inr (8, [.ref k_name, .ref k_worth, .ref k_times, .ref k_first, .ref k_second, .ref k_beforeLast, .ref k_last, .ref k_errandOf, .ref k_errandAfter, .ref k_sound, .ref k_followers, .ref k_leaders, .int (nI w), .int k_errands, .int k_alikes, .int k_law])), (k_times, .inl (cI, 24, .inl f_times)), (k_followers, .inl (cI, 24, .inl f_followers)), (k_worth, .inl (cI, 24, .inl f_worth))]) [5, 1, 2, 3, 4, 0] (by decide) rfl
    refine W.widen (k := 0) (n := 0) (Nat.le_of_ble_eq_true rfl) (Nat.le_of_ble_eq_true rfl) ?_
    exact W.iret (v := r_11) hx hb hr (fun tz htz hWz => ⟨⟨r_11, [(o, .inr (6, [.ref p_said, .int p_latest, .int p_spoken, .int p_earned, .int (nI p_dn), .int w2_12, .int p_kept])), (p_said, .inl (cI, 24, .inl f_p_said)), (t, .inr (8, [.ref k_name, .ref k_worth, .ref k_times, .ref k_first, .ref k_second, .ref k_beforeLast, .ref k_last, .ref k_errandOf, .ref k_errandAfter, .ref k_sound, .ref k_followers, .ref k_leaders, .int (nI w), .int k_errands, .int k_alikes, .int k_law])), (k_times, .inl (cI, 24, .inl f_times)), (k_followers, .inl (cI, 24, .inl f_followers)), (k_worth, .inl (cI, 24, .inl f_worth))], rfl, ⟨w2_12, rfl⟩, by rw [htz]; exact hP9, va_K.moved hWz.alike hK, hD9⟩, hS.F htz⟩) hS.2.2 dX6_choose_16

set_option maxHeartbeats 4000000 in
set_option maxRecDepth 100000 in
theorem c_X7_put (l : Launch) (D : va_G) (cB cI cJ cS cZ cO : ClassId) (sz : Nat) (o : Nat) (x : Int32) (tp_bytes : Nat) (sz0 : Nat) (fb : Nat → Int32) (hsz : sz0 ≤ 1600) : Met l yX7_put wsX7_put ({ frames := 0, cells := 0, slots := 0, locals := 0 }) (xPre D (tyL cB cI cJ cS cZ cO) [(o, .inr (7, [.ref tp_bytes, .int (nI sz0)])), (tp_bytes, .inl (cB, 1600, .inl fb))] sz [.ref o, .int x]) (xQv D (tyL cB cI cJ cS cZ cO) (va_A [(o, .inr (7, [.ref tp_bytes, .int (nI sz0)])), (tp_bytes, .inl (cB, 1600, .inl fb))] sz) (fun u : va_W => ∃ sz2 : Nat, ∃ g : Nat → Int32, u = [(o, .inr (7, [.ref tp_bytes, .int (nI sz2)])), (tp_bytes, .inl (cB, 1600, .inl g))] ∧ sz2 ≤ 1600)) 0 0 (va_A [(o, .inr (7, [.ref tp_bytes, .int (nI sz0)])), (tp_bytes, .inl (cB, 1600, .inl fb))] sz) := by
  refine Met.ofW (cc := cX7_put) (maxL := 3) (ret := none) (by decide) rfl ?_
  intro p e s m args below meth c s₁ B hml hv
  obtain ⟨rfl, hsz, hP, hK, hD0, hN⟩ := hv
  have hx := B.exec
  have hb := B.bytes
  have hr := B.returns
  have hts := atoms_spec (ws := wsX7_put) B.pre
  have hown : s.vm.findClass RX7 = some m.cls := findClass_of_methodNamed B.named
  have hlocks := B.notSynchronized
  subst hsz
  have hD := hD0.self (sz := s.heap.size)
  generalize hAe : va_A [(o, .inr (7, [.ref tp_bytes, .int (nI sz0)])), (tp_bytes, .inl (cB, 1600, .inl fb))] s.heap.size = A at hD ⊢
  have hA : ∀ q : Nat, s.heap.size ≤ q → A q := fun q h => by rw [← hAe]; exact Or.inr h
  have hS : va_S A s.heap s.heap [] := va_S.rf
  have hP : va_P D vwCl [(o, .inr (7, [.ref tp_bytes, .int (nI sz0)])), (tp_bytes, .inl (cB, 1600, .inl fb))] s.heap := hP
  have hl := lv_entry ([.ref o, .int x]) (n := 3) (Nat.le_of_ble_eq_true rfl)
  rw [lg_entry_eq]
  generalize (lg_sl ([.ref o, .int x]) ++ List.replicate (3 - (lg_sl ([.ref o, .int x])).length) Slot.unset).toArray = ls at hl ⊢
  have hl : lv_has ls 3 [(0, .ref o), (1, .int x)] := hl
  refine lv_bipush (v := 24) hx hb dX7_put_0 (by decide) ?_
  refine lv_istore_n (lv' := [(2, .int 24), (0, .ref o), (1, .int x)]) hx hb dX7_put_2 rfl hl (by decide) rfl (fun ls hl => ?_)
  refine lv_iload_n hx hb dX7_put_3 rfl (lv_at hl 0 rfl) ?_
  refine lv_if_lt (tgt := 46) hx hb dX7_put_4 (by decide) (fun c_1 => absurd c_1 (by decide)) (fun c_1 => ?_)
  refine lv_aload_n hx hb dX7_put_7 rfl (lv_at hl 1 rfl) ?_
  refine va_get (D := D) (ci := 7) (v := .int (nI sz0)) (C := RX7) (T := TX7) (N := 2) hx hb hts (by decide +kernel) hown hK hP 0 rfl rfl 1 (by decide) (hts (.fieldLink RX7 15 "LastLetter$Tape" "size" "I") (by decide +kernel)) (fun _ h9 => h9) rfl dX7_put_8 ?_
  refine lv_sipush (v := 1600) hx hb dX7_put_11 (by decide) ?_
  refine lv_icmp_ge (tgt := 46) hx hb dX7_put_14 (by decide) (fun c_2 => ?_) (fun c_2 => ?_)
  · have dc_2 : 1600 ≤ sz0 := (nI_leI (a := 1600) (b := sz0) (by omega) (by omega)).mp c_2
    have hP9 := hP.sub (ws' := [(o, .inr (7, [.ref tp_bytes, .int (nI sz0)])), (tp_bytes, .inl (cB, 1600, .inl fb))]) [0, 1] rfl
    have hD9 := hD.sub (ws' := [(o, .inr (7, [.ref tp_bytes, .int (nI sz0)])), (tp_bytes, .inl (cB, 1600, .inl fb))]) [0, 1] (by decide) rfl
    refine W.widen (k := 0) (n := 0) (Nat.le_of_ble_eq_true rfl) (Nat.le_of_ble_eq_true rfl) ?_
    exact W.vret hx hb hr (fun tz htz hWz => ⟨⟨[(o, .inr (7, [.ref tp_bytes, .int (nI sz0)])), (tp_bytes, .inl (cB, 1600, .inl fb))], rfl, ⟨sz0, fb, rfl, (by first | assumption | omega)⟩, by rw [htz]; exact hP9, va_K.moved hWz.alike hK, hD9⟩, hS.F htz⟩) hS.2.2 dX7_put_46
  · have dc_2 : ¬ 1600 ≤ sz0 := fun h => c_2 ((nI_leI (a := 1600) (b := sz0) (by omega) (by omega)).mpr h)
    refine lv_aload_n hx hb dX7_put_17 rfl (lv_at hl 1 rfl) ?_
    refine va_get (D := D) (ci := 7) (v := .ref tp_bytes) (C := RX7) (T := TX7) (N := 2) hx hb hts (by decide +kernel) hown hK hP 0 rfl rfl 0 (by decide) (hts (.fieldLink RX7 9 "LastLetter$Tape" "bytes" "[B") (by decide +kernel)) (fun _ h9 => h9) rfl dX7_put_18 ?_
    refine lv_aload_n hx hb dX7_put_21 rfl (lv_at hl 1 rfl) ?_
    refine va_get (D := D) (ci := 7) (v := .int (nI sz0)) (C := RX7) (T := TX7) (N := 2) hx hb hts (by decide +kernel) hown hK hP 0 rfl rfl 1 (by decide) (hts (.fieldLink RX7 15 "LastLetter$Tape" "size" "I") (by decide +kernel)) (fun _ h9 => h9) rfl dX7_put_22 ?_
    refine lv_iload_n hx hb dX7_put_25 rfl (lv_at hl 2 rfl) ?_
    refine lv_iload_n hx hb dX7_put_26 rfl (lv_at hl 0 rfl) ?_
    refine lv_iushr (v := (x.toUInt32 >>> (Int32.toUInt32 24 &&& Int32.toUInt32 31)).toInt32) hx hb dX7_put_27 rfl ?_
    refine lv_i2b (v := ((x.toUInt32 >>> (Int32.toUInt32 24 &&& Int32.toUInt32 31)).toInt32).toInt8.toInt32) hx hb dX7_put_28 rfl ?_
    refine va_bast hx hb hK hP hD hS 1 0 rfl rfl (vp_in_nI (by omega) (by omega)) dX7_put_29 (fun H locs hP hD hS => ?_)
    have hP : va_P D vwCl [(o, .inr (7, [.ref tp_bytes, .int (nI sz0)])), (tp_bytes, .inl (cB, 1600, .inl (upd fb (Int32.toNatClampNeg (nI sz0)) (vp_nar .byte (((x.toUInt32 >>> (Int32.toUInt32 24 &&& Int32.toUInt32 31)).toInt32).toInt8.toInt32)))))] H := hP
    have hD : va_D A [(o, .inr (7, [.ref tp_bytes, .int (nI sz0)])), (tp_bytes, .inl (cB, 1600, .inl (upd fb (Int32.toNatClampNeg (nI sz0)) (vp_nar .byte (((x.toUInt32 >>> (Int32.toUInt32 24 &&& Int32.toUInt32 31)).toInt32).toInt8.toInt32)))))] := hD
    generalize eg_3 : upd fb (Int32.toNatClampNeg (nI sz0)) (vp_nar .byte (((x.toUInt32 >>> (Int32.toUInt32 24 &&& Int32.toUInt32 31)).toInt32).toInt8.toInt32)) = g_3 at hP hD
    refine lv_aload_n hx hb dX7_put_30 rfl (lv_at hl 1 rfl) ?_
    refine lv_dup hx hb dX7_put_31 rfl ?_
    refine va_get (D := D) (ci := 7) (v := .int (nI sz0)) (C := RX7) (T := TX7) (N := 2) hx hb hts (by decide +kernel) hown hK hP 0 rfl rfl 1 (by decide) (hts (.fieldLink RX7 15 "LastLetter$Tape" "size" "I") (by decide +kernel)) (fun _ h9 => h9) rfl dX7_put_32 ?_
    refine lv_iconst (v := 1) hx hb dX7_put_35 (by decide) ?_
    refine lv_iadd hx hb dX7_put_36 ?_
    refine xb_top (y := nI (sz0 + 1)) (nI_add sz0 1) ?_
    refine va_put (D := D) (ci := 7) (v := .int (nI (sz0 + 1))) (ty := .int) (C := RX7) (T := TX7) (N := 2) hx hb hts (by decide +kernel) tyX7 tyX7_ok nmX7 hown hK hP hD hS 0 rfl rfl 1 (by decide) (hts (.fieldLink RX7 15 "LastLetter$Tape" "size" "I") (by decide +kernel)) (fun _ h9 => h9) rfl (by decide +kernel) rfl rfl (Nat.le_of_ble_eq_true rfl) dX7_put_37 (fun H locs hP hD hS => ?_)
    have hP : va_P D vwCl [(o, .inr (7, [.ref tp_bytes, .int (nI (sz0 + 1))])), (tp_bytes, .inl (cB, 1600, .inl g_3))] H := hP
    have hD : va_D A [(o, .inr (7, [.ref tp_bytes, .int (nI (sz0 + 1))])), (tp_bytes, .inl (cB, 1600, .inl g_3))] := hD
    refine lv_iinc (v := 16) (lv' := [(2, .int 16), (0, .ref o), (1, .int x)]) hx hb dX7_put_40 hl (k := 0) rfl (by decide) (by decide) rfl (fun ls hl => ?_)
    refine lv_goto (tgt := 3) hx hb dX7_put_43 (by decide) ?_
    refine lv_iload_n hx hb dX7_put_3 rfl (lv_at hl 0 rfl) ?_
    refine lv_if_lt (tgt := 46) hx hb dX7_put_4 (by decide) (fun c_4 => absurd c_4 (by decide)) (fun c_4 => ?_)
    refine lv_aload_n hx hb dX7_put_7 rfl (lv_at hl 1 rfl) ?_
    refine va_get (D := D) (ci := 7) (v := .int (nI (sz0 + 1))) (C := RX7) (T := TX7) (N := 2) hx hb hts (by decide +kernel) hown hK hP 0 rfl rfl 1 (by decide) (hts (.fieldLink RX7 15 "LastLetter$Tape" "size" "I") (by decide +kernel)) (fun _ h9 => h9) rfl dX7_put_8 ?_
    refine lv_sipush (v := 1600) hx hb dX7_put_11 (by decide) ?_
    refine lv_icmp_ge (tgt := 46) hx hb dX7_put_14 (by decide) (fun c_5 => ?_) (fun c_5 => ?_)
    · have dc_5 : 1600 ≤ sz0 + 1 := (nI_leI (a := 1600) (b := sz0 + 1) (by omega) (by omega)).mp c_5
      have hP9 := hP.sub (ws' := [(o, .inr (7, [.ref tp_bytes, .int (nI (sz0 + 1))])), (tp_bytes, .inl (cB, 1600, .inl g_3))]) [0, 1] rfl
      have hD9 := hD.sub (ws' := [(o, .inr (7, [.ref tp_bytes, .int (nI (sz0 + 1))])), (tp_bytes, .inl (cB, 1600, .inl g_3))]) [0, 1] (by decide) rfl
      refine W.widen (k := 0) (n := 0) (Nat.le_of_ble_eq_true rfl) (Nat.le_of_ble_eq_true rfl) ?_
      exact W.vret hx hb hr (fun tz htz hWz => ⟨⟨[(o, .inr (7, [.ref tp_bytes, .int (nI (sz0 + 1))])), (tp_bytes, .inl (cB, 1600, .inl g_3))], rfl, ⟨(sz0 + 1), g_3, rfl, (by first | assumption | omega)⟩, by rw [htz]; exact hP9, va_K.moved hWz.alike hK, hD9⟩, hS.F htz⟩) hS.2.2 dX7_put_46
    · have dc_5 : ¬ 1600 ≤ (sz0 + 1) := fun h => c_5 ((nI_leI (a := 1600) (b := sz0 + 1) (by omega) (by omega)).mpr h)
      refine lv_aload_n hx hb dX7_put_17 rfl (lv_at hl 1 rfl) ?_
      refine va_get (D := D) (ci := 7) (v := .ref tp_bytes) (C := RX7) (T := TX7) (N := 2) hx hb hts (by decide +kernel) hown hK hP 0 rfl rfl 0 (by decide) (hts (.fieldLink RX7 9 "LastLetter$Tape" "bytes" "[B") (by decide +kernel)) (fun _ h9 => h9) rfl dX7_put_18 ?_
      refine lv_aload_n hx hb dX7_put_21 rfl (lv_at hl 1 rfl) ?_
      refine va_get (D := D) (ci := 7) (v := .int (nI (sz0 + 1))) (C := RX7) (T := TX7) (N := 2) hx hb hts (by decide +kernel) hown hK hP 0 rfl rfl 1 (by decide) (hts (.fieldLink RX7 15 "LastLetter$Tape" "size" "I") (by decide +kernel)) (fun _ h9 => h9) rfl dX7_put_22 ?_
      refine lv_iload_n hx hb dX7_put_25 rfl (lv_at hl 2 rfl) ?_
      refine lv_iload_n hx hb dX7_put_26 rfl (lv_at hl 0 rfl) ?_
      refine lv_iushr (v := (x.toUInt32 >>> (Int32.toUInt32 16 &&& Int32.toUInt32 31)).toInt32) hx hb dX7_put_27 rfl ?_
      refine lv_i2b (v := ((x.toUInt32 >>> (Int32.toUInt32 16 &&& Int32.toUInt32 31)).toInt32).toInt8.toInt32) hx hb dX7_put_28 rfl ?_
      refine va_bast hx hb hK hP hD hS 1 0 rfl rfl (vp_in_nI (by omega) (by omega)) dX7_put_29 (fun H locs hP hD hS => ?_)
      have hP : va_P D vwCl [(o, .inr (7, [.ref tp_bytes, .int (nI (sz0 + 1))])), (tp_bytes, .inl (cB, 1600, .inl (upd g_3 (Int32.toNatClampNeg (nI (sz0 + 1))) (vp_nar .byte (((x.toUInt32 >>> (Int32.toUInt32 16 &&& Int32.toUInt32 31)).toInt32).toInt8.toInt32)))))] H := hP
      have hD : va_D A [(o, .inr (7, [.ref tp_bytes, .int (nI (sz0 + 1))])), (tp_bytes, .inl (cB, 1600, .inl (upd g_3 (Int32.toNatClampNeg (nI (sz0 + 1))) (vp_nar .byte (((x.toUInt32 >>> (Int32.toUInt32 16 &&& Int32.toUInt32 31)).toInt32).toInt8.toInt32)))))] := hD
      generalize eg_6 : upd g_3 (Int32.toNatClampNeg (nI (sz0 + 1))) (vp_nar .byte (((x.toUInt32 >>> (Int32.toUInt32 16 &&& Int32.toUInt32 31)).toInt32).toInt8.toInt32)) = g_6 at hP hD
      refine lv_aload_n hx hb dX7_put_30 rfl (lv_at hl 1 rfl) ?_
      refine lv_dup hx hb dX7_put_31 rfl ?_
      refine va_get (D := D) (ci := 7) (v := .int (nI (sz0 + 1))) (C := RX7) (T := TX7) (N := 2) hx hb hts (by decide +kernel) hown hK hP 0 rfl rfl 1 (by decide) (hts (.fieldLink RX7 15 "LastLetter$Tape" "size" "I") (by decide +kernel)) (fun _ h9 => h9) rfl dX7_put_32 ?_
      refine lv_iconst (v := 1) hx hb dX7_put_35 (by decide) ?_
      refine lv_iadd hx hb dX7_put_36 ?_
      refine xb_top (y := nI ((sz0 + 1) + 1)) (nI_add (sz0 + 1) 1) ?_
      refine va_put (D := D) (ci := 7) (v := .int (nI ((sz0 + 1) + 1))) (ty := .int) (C := RX7) (T := TX7) (N := 2) hx hb hts (by decide +kernel) tyX7 tyX7_ok nmX7 hown hK hP hD hS 0 rfl rfl 1 (by decide) (hts (.fieldLink RX7 15 "LastLetter$Tape" "size" "I") (by decide +kernel)) (fun _ h9 => h9) rfl (by decide +kernel) rfl rfl (Nat.le_of_ble_eq_true rfl) dX7_put_37 (fun H locs hP hD hS => ?_)
      have hP : va_P D vwCl [(o, .inr (7, [.ref tp_bytes, .int (nI ((sz0 + 1) + 1))])), (tp_bytes, .inl (cB, 1600, .inl g_6))] H := hP
      have hD : va_D A [(o, .inr (7, [.ref tp_bytes, .int (nI ((sz0 + 1) + 1))])), (tp_bytes, .inl (cB, 1600, .inl g_6))] := hD
      refine lv_iinc (v := 8) (lv' := [(2, .int 8), (0, .ref o), (1, .int x)]) hx hb dX7_put_40 hl (k := 0) rfl (by decide) (by decide) rfl (fun ls hl => ?_)
      refine lv_goto (tgt := 3) hx hb dX7_put_43 (by decide) ?_
      refine lv_iload_n hx hb dX7_put_3 rfl (lv_at hl 0 rfl) ?_
      refine lv_if_lt (tgt := 46) hx hb dX7_put_4 (by decide) (fun c_7 => absurd c_7 (by decide)) (fun c_7 => ?_)
      refine lv_aload_n hx hb dX7_put_7 rfl (lv_at hl 1 rfl) ?_
      refine va_get (D := D) (ci := 7) (v := .int (nI ((sz0 + 1) + 1))) (C := RX7) (T := TX7) (N := 2) hx hb hts (by decide +kernel) hown hK hP 0 rfl rfl 1 (by decide) (hts (.fieldLink RX7 15 "LastLetter$Tape" "size" "I") (by decide +kernel)) (fun _ h9 => h9) rfl dX7_put_8 ?_
      refine lv_sipush (v := 1600) hx hb dX7_put_11 (by decide) ?_
      refine lv_icmp_ge (tgt := 46) hx hb dX7_put_14 (by decide) (fun c_8 => ?_) (fun c_8 => ?_)
      · have dc_8 : 1600 ≤ (sz0 + 1) + 1 := (nI_leI (a := 1600) (b := (sz0 + 1) + 1) (by omega) (by omega)).mp c_8
        have hP9 := hP.sub (ws' := [(o, .inr (7, [.ref tp_bytes, .int (nI ((sz0 + 1) + 1))])), (tp_bytes, .inl (cB, 1600, .inl g_6))]) [0, 1] rfl
        have hD9 := hD.sub (ws' := [(o, .inr (7, [.ref tp_bytes, .int (nI ((sz0 + 1) + 1))])), (tp_bytes, .inl (cB, 1600, .inl g_6))]) [0, 1] (by decide) rfl
        refine W.widen (k := 0) (n := 0) (Nat.le_of_ble_eq_true rfl) (Nat.le_of_ble_eq_true rfl) ?_
        exact W.vret hx hb hr (fun tz htz hWz => ⟨⟨[(o, .inr (7, [.ref tp_bytes, .int (nI ((sz0 + 1) + 1))])), (tp_bytes, .inl (cB, 1600, .inl g_6))], rfl, ⟨((sz0 + 1) + 1), g_6, rfl, (by first | assumption | omega)⟩, by rw [htz]; exact hP9, va_K.moved hWz.alike hK, hD9⟩, hS.F htz⟩) hS.2.2 dX7_put_46
      · have dc_8 : ¬ 1600 ≤ ((sz0 + 1) + 1) := fun h => c_8 ((nI_leI (a := 1600) (b := (sz0 + 1) + 1) (by omega) (by omega)).mpr h)
        refine lv_aload_n hx hb dX7_put_17 rfl (lv_at hl 1 rfl) ?_
        refine va_get (D := D) (ci := 7) (v := .ref tp_bytes) (C := RX7) (T := TX7) (N := 2) hx hb hts (by decide +kernel) hown hK hP 0 rfl rfl 0 (by decide) (hts (.fieldLink RX7 9 "LastLetter$Tape" "bytes" "[B") (by decide +kernel)) (fun _ h9 => h9) rfl dX7_put_18 ?_
        refine lv_aload_n hx hb dX7_put_21 rfl (lv_at hl 1 rfl) ?_
        refine va_get (D := D) (ci := 7) (v := .int (nI ((sz0 + 1) + 1))) (C := RX7) (T := TX7) (N := 2) hx hb hts (by decide +kernel) hown hK hP 0 rfl rfl 1 (by decide) (hts (.fieldLink RX7 15 "LastLetter$Tape" "size" "I") (by decide +kernel)) (fun _ h9 => h9) rfl dX7_put_22 ?_
        refine lv_iload_n hx hb dX7_put_25 rfl (lv_at hl 2 rfl) ?_
        refine lv_iload_n hx hb dX7_put_26 rfl (lv_at hl 0 rfl) ?_
        refine lv_iushr (v := (x.toUInt32 >>> (Int32.toUInt32 8 &&& Int32.toUInt32 31)).toInt32) hx hb dX7_put_27 rfl ?_
        refine lv_i2b (v := ((x.toUInt32 >>> (Int32.toUInt32 8 &&& Int32.toUInt32 31)).toInt32).toInt8.toInt32) hx hb dX7_put_28 rfl ?_
        refine va_bast hx hb hK hP hD hS 1 0 rfl rfl (vp_in_nI (by omega) (by omega)) dX7_put_29 (fun H locs hP hD hS => ?_)
        have hP : va_P D vwCl [(o, .inr (7, [.ref tp_bytes, .int (nI ((sz0 + 1) + 1))])), (tp_bytes, .inl (cB, 1600, .inl (upd g_6 (Int32.toNatClampNeg (nI ((sz0 + 1) + 1))) (vp_nar .byte (((x.toUInt32 >>> (Int32.toUInt32 8 &&& Int32.toUInt32 31)).toInt32).toInt8.toInt32)))))] H := hP
        have hD : va_D A [(o, .inr (7, [.ref tp_bytes, .int (nI ((sz0 + 1) + 1))])), (tp_bytes, .inl (cB, 1600, .inl (upd g_6 (Int32.toNatClampNeg (nI ((sz0 + 1) + 1))) (vp_nar .byte (((x.toUInt32 >>> (Int32.toUInt32 8 &&& Int32.toUInt32 31)).toInt32).toInt8.toInt32)))))] := hD
        generalize eg_9 : upd g_6 (Int32.toNatClampNeg (nI ((sz0 + 1) + 1))) (vp_nar .byte (((x.toUInt32 >>> (Int32.toUInt32 8 &&& Int32.toUInt32 31)).toInt32).toInt8.toInt32)) = g_9 at hP hD
        refine lv_aload_n hx hb dX7_put_30 rfl (lv_at hl 1 rfl) ?_
        refine lv_dup hx hb dX7_put_31 rfl ?_
        refine va_get (D := D) (ci := 7) (v := .int (nI ((sz0 + 1) + 1))) (C := RX7) (T := TX7) (N := 2) hx hb hts (by decide +kernel) hown hK hP 0 rfl rfl 1 (by decide) (hts (.fieldLink RX7 15 "LastLetter$Tape" "size" "I") (by decide +kernel)) (fun _ h9 => h9) rfl dX7_put_32 ?_
        refine lv_iconst (v := 1) hx hb dX7_put_35 (by decide) ?_
        refine lv_iadd hx hb dX7_put_36 ?_
        refine xb_top (y := nI (((sz0 + 1) + 1) + 1)) (nI_add ((sz0 + 1) + 1) 1) ?_
        refine va_put (D := D) (ci := 7) (v := .int (nI (((sz0 + 1) + 1) + 1))) (ty := .int) (C := RX7) (T := TX7) (N := 2) hx hb hts (by decide +kernel) tyX7 tyX7_ok nmX7 hown hK hP hD hS 0 rfl rfl 1 (by decide) (hts (.fieldLink RX7 15 "LastLetter$Tape" "size" "I") (by decide +kernel)) (fun _ h9 => h9) rfl (by decide +kernel) rfl rfl (Nat.le_of_ble_eq_true rfl) dX7_put_37 (fun H locs hP hD hS => ?_)
        have hP : va_P D vwCl [(o, .inr (7, [.ref tp_bytes, .int (nI (((sz0 + 1) + 1) + 1))])), (tp_bytes, .inl (cB, 1600, .inl g_9))] H := hP
        have hD : va_D A [(o, .inr (7, [.ref tp_bytes, .int (nI (((sz0 + 1) + 1) + 1))])), (tp_bytes, .inl (cB, 1600, .inl g_9))] := hD
        refine lv_iinc (v := 0) (lv' := [(2, .int 0), (0, .ref o), (1, .int x)]) hx hb dX7_put_40 hl (k := 0) rfl (by decide) (by decide) rfl (fun ls hl => ?_)
        refine lv_goto (tgt := 3) hx hb dX7_put_43 (by decide) ?_
        refine lv_iload_n hx hb dX7_put_3 rfl (lv_at hl 0 rfl) ?_
        refine lv_if_lt (tgt := 46) hx hb dX7_put_4 (by decide) (fun c_10 => absurd c_10 (by decide)) (fun c_10 => ?_)
        refine lv_aload_n hx hb dX7_put_7 rfl (lv_at hl 1 rfl) ?_
        refine va_get (D := D) (ci := 7) (v := .int (nI (((sz0 + 1) + 1) + 1))) (C := RX7) (T := TX7) (N := 2) hx hb hts (by decide +kernel) hown hK hP 0 rfl rfl 1 (by decide) (hts (.fieldLink RX7 15 "LastLetter$Tape" "size" "I") (by decide +kernel)) (fun _ h9 => h9) rfl dX7_put_8 ?_
        refine lv_sipush (v := 1600) hx hb dX7_put_11 (by decide) ?_
        refine lv_icmp_ge (tgt := 46) hx hb dX7_put_14 (by decide) (fun c_11 => ?_) (fun c_11 => ?_)
        · have dc_11 : 1600 ≤ ((sz0 + 1) + 1) + 1 := (nI_leI (a := 1600) (b := ((sz0 + 1) + 1) + 1) (by omega) (by omega)).mp c_11
          have hP9 := hP.sub (ws' := [(o, .inr (7, [.ref tp_bytes, .int (nI (((sz0 + 1) + 1) + 1))])), (tp_bytes, .inl (cB, 1600, .inl g_9))]) [0, 1] rfl
          have hD9 := hD.sub (ws' := [(o, .inr (7, [.ref tp_bytes, .int (nI (((sz0 + 1) + 1) + 1))])), (tp_bytes, .inl (cB, 1600, .inl g_9))]) [0, 1] (by decide) rfl
          refine W.widen (k := 0) (n := 0) (Nat.le_of_ble_eq_true rfl) (Nat.le_of_ble_eq_true rfl) ?_
          exact W.vret hx hb hr (fun tz htz hWz => ⟨⟨[(o, .inr (7, [.ref tp_bytes, .int (nI (((sz0 + 1) + 1) + 1))])), (tp_bytes, .inl (cB, 1600, .inl g_9))], rfl, ⟨(((sz0 + 1) + 1) + 1), g_9, rfl, (by first | assumption | omega)⟩, by rw [htz]; exact hP9, va_K.moved hWz.alike hK, hD9⟩, hS.F htz⟩) hS.2.2 dX7_put_46
        · have dc_11 : ¬ 1600 ≤ (((sz0 + 1) + 1) + 1) := fun h => c_11 ((nI_leI (a := 1600) (b := ((sz0 + 1) + 1) + 1) (by omega) (by omega)).mpr h)
          refine lv_aload_n hx hb dX7_put_17 rfl (lv_at hl 1 rfl) ?_
          refine va_get (D := D) (ci := 7) (v := .ref tp_bytes) (C := RX7) (T := TX7) (N := 2) hx hb hts (by decide +kernel) hown hK hP 0 rfl rfl 0 (by decide) (hts (.fieldLink RX7 9 "LastLetter$Tape" "bytes" "[B") (by decide +kernel)) (fun _ h9 => h9) rfl dX7_put_18 ?_
          refine lv_aload_n hx hb dX7_put_21 rfl (lv_at hl 1 rfl) ?_
          refine va_get (D := D) (ci := 7) (v := .int (nI (((sz0 + 1) + 1) + 1))) (C := RX7) (T := TX7) (N := 2) hx hb hts (by decide +kernel) hown hK hP 0 rfl rfl 1 (by decide) (hts (.fieldLink RX7 15 "LastLetter$Tape" "size" "I") (by decide +kernel)) (fun _ h9 => h9) rfl dX7_put_22 ?_
          refine lv_iload_n hx hb dX7_put_25 rfl (lv_at hl 2 rfl) ?_
          refine lv_iload_n hx hb dX7_put_26 rfl (lv_at hl 0 rfl) ?_
          refine lv_iushr (v := (x.toUInt32 >>> (Int32.toUInt32 0 &&& Int32.toUInt32 31)).toInt32) hx hb dX7_put_27 rfl ?_
          refine lv_i2b (v := ((x.toUInt32 >>> (Int32.toUInt32 0 &&& Int32.toUInt32 31)).toInt32).toInt8.toInt32) hx hb dX7_put_28 rfl ?_
          refine va_bast hx hb hK hP hD hS 1 0 rfl rfl (vp_in_nI (by omega) (by omega)) dX7_put_29 (fun H locs hP hD hS => ?_)
          have hP : va_P D vwCl [(o, .inr (7, [.ref tp_bytes, .int (nI (((sz0 + 1) + 1) + 1))])), (tp_bytes, .inl (cB, 1600, .inl (upd g_9 (Int32.toNatClampNeg (nI (((sz0 + 1) + 1) + 1))) (vp_nar .byte (((x.toUInt32 >>> (Int32.toUInt32 0 &&& Int32.toUInt32 31)).toInt32).toInt8.toInt32)))))] H := hP
          have hD : va_D A [(o, .inr (7, [.ref tp_bytes, .int (nI (((sz0 + 1) + 1) + 1))])), (tp_bytes, .inl (cB, 1600, .inl (upd g_9 (Int32.toNatClampNeg (nI (((sz0 + 1) + 1) + 1))) (vp_nar .byte (((x.toUInt32 >>> (Int32.toUInt32 0 &&& Int32.toUInt32 31)).toInt32).toInt8.toInt32)))))] := hD
          generalize eg_12 : upd g_9 (Int32.toNatClampNeg (nI (((sz0 + 1) + 1) + 1))) (vp_nar .byte (((x.toUInt32 >>> (Int32.toUInt32 0 &&& Int32.toUInt32 31)).toInt32).toInt8.toInt32)) = g_12 at hP hD
          refine lv_aload_n hx hb dX7_put_30 rfl (lv_at hl 1 rfl) ?_
          refine lv_dup hx hb dX7_put_31 rfl ?_
          refine va_get (D := D) (ci := 7) (v := .int (nI (((sz0 + 1) + 1) + 1))) (C := RX7) (T := TX7) (N := 2) hx hb hts (by decide +kernel) hown hK hP 0 rfl rfl 1 (by decide) (hts (.fieldLink RX7 15 "LastLetter$Tape" "size" "I") (by decide +kernel)) (fun _ h9 => h9) rfl dX7_put_32 ?_
          refine lv_iconst (v := 1) hx hb dX7_put_35 (by decide) ?_
          refine lv_iadd hx hb dX7_put_36 ?_
          refine xb_top (y := nI ((((sz0 + 1) + 1) + 1) + 1)) (nI_add (((sz0 + 1) + 1) + 1) 1) ?_
          refine va_put (D := D) (ci := 7) (v := .int (nI ((((sz0 + 1) + 1) + 1) + 1))) (ty := .int) (C := RX7) (T := TX7) (N := 2) hx hb hts (by decide +kernel) tyX7 tyX7_ok nmX7 hown hK hP hD hS 0 rfl rfl 1 (by decide) (hts (.fieldLink RX7 15 "LastLetter$Tape" "size" "I") (by decide +kernel)) (fun _ h9 => h9) rfl (by decide +kernel) rfl rfl (Nat.le_of_ble_eq_true rfl) dX7_put_37 (fun H locs hP hD hS => ?_)
          have hP : va_P D vwCl [(o, .inr (7, [.ref tp_bytes, .int (nI ((((sz0 + 1) + 1) + 1) + 1))])), (tp_bytes, .inl (cB, 1600, .inl g_12))] H := hP
          have hD : va_D A [(o, .inr (7, [.ref tp_bytes, .int (nI ((((sz0 + 1) + 1) + 1) + 1))])), (tp_bytes, .inl (cB, 1600, .inl g_12))] := hD
          refine lv_iinc (v := (-8)) (lv' := [(2, .int (-8)), (0, .ref o), (1, .int x)]) hx hb dX7_put_40 hl (k := 0) rfl (by decide) (by decide) rfl (fun ls hl => ?_)
          refine lv_goto (tgt := 3) hx hb dX7_put_43 (by decide) ?_
          refine lv_iload_n hx hb dX7_put_3 rfl (lv_at hl 0 rfl) ?_
          refine lv_if_lt (tgt := 46) hx hb dX7_put_4 (by decide) (fun c_13 => ?_) (fun c_13 => absurd (by decide) c_13)
          have hP9 := hP.sub (ws' := [(o, .inr (7, [.ref tp_bytes, .int (nI ((((sz0 + 1) + 1) + 1) + 1))])), (tp_bytes, .inl (cB, 1600, .inl g_12))]) [0, 1] rfl
          have hD9 := hD.sub (ws' := [(o, .inr (7, [.ref tp_bytes, .int (nI ((((sz0 + 1) + 1) + 1) + 1))])), (tp_bytes, .inl (cB, 1600, .inl g_12))]) [0, 1] (by decide) rfl
          refine W.widen (k := 0) (n := 0) (Nat.le_of_ble_eq_true rfl) (Nat.le_of_ble_eq_true rfl) ?_
          exact W.vret hx hb hr (fun tz htz hWz => ⟨⟨[(o, .inr (7, [.ref tp_bytes, .int (nI ((((sz0 + 1) + 1) + 1) + 1))])), (tp_bytes, .inl (cB, 1600, .inl g_12))], rfl, ⟨((((sz0 + 1) + 1) + 1) + 1), g_12, rfl, (by first | assumption | omega)⟩, by rw [htz]; exact hP9, va_K.moved hWz.alike hK, hD9⟩, hS.F htz⟩) hS.2.2 dX7_put_46
