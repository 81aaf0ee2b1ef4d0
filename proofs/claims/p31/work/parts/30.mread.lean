theorem dX11_fails_0 : decode cX11_fails 0 = .ok (.aload_n 0, 1) := by decide +kernel
theorem dX11_fails_1 : decode cX11_fails 1 = .ok (.getfield 138, 3) := by decide +kernel
theorem dX11_fails_4 : decode cX11_fails 4 = .ok (.ifCond .le 4, 3) := by decide +kernel
theorem dX11_fails_7 : decode cX11_fails 7 = .ok (.return_, 1) := by decide +kernel
theorem dX11_fails_8 : decode cX11_fails 8 = .ok (.aload_n 0, 1) := by decide +kernel
theorem dX11_fails_9 : decode cX11_fails 9 = .ok (.iload_n 1, 1) := by decide +kernel
theorem dX11_fails_10 : decode cX11_fails 10 = .ok (.putfield 138, 3) := by decide +kernel
theorem dX11_fails_13 : decode cX11_fails 13 = .ok (.aload_n 0, 1) := by decide +kernel
theorem dX11_fails_14 : decode cX11_fails 14 = .ok (.iload_n 2, 1) := by decide +kernel
theorem dX11_fails_15 : decode cX11_fails 15 = .ok (.putfield 16, 3) := by decide +kernel
theorem dX11_fails_18 : decode cX11_fails 18 = .ok (.return_, 1) := by decide +kernel
theorem dX11_isDigit_0 : decode cX11_isDigit 0 = .ok (.iload_n 0, 1) := by decide +kernel
theorem dX11_isDigit_1 : decode cX11_isDigit 1 = .ok (.bipush 48, 2) := by decide +kernel
theorem dX11_isDigit_3 : decode cX11_isDigit 3 = .ok (.if_icmp .lt 13, 3) := by decide +kernel
theorem dX11_isDigit_6 : decode cX11_isDigit 6 = .ok (.iload_n 0, 1) := by decide +kernel
theorem dX11_isDigit_7 : decode cX11_isDigit 7 = .ok (.bipush 57, 2) := by decide +kernel
theorem dX11_isDigit_9 : decode cX11_isDigit 9 = .ok (.if_icmp .gt 7, 3) := by decide +kernel
theorem dX11_isDigit_12 : decode cX11_isDigit 12 = .ok (.iconst 1, 1) := by decide +kernel
theorem dX11_isDigit_13 : decode cX11_isDigit 13 = .ok (.goto 4, 3) := by decide +kernel
theorem dX11_isDigit_16 : decode cX11_isDigit 16 = .ok (.iconst 0, 1) := by decide +kernel
theorem dX11_isDigit_17 : decode cX11_isDigit 17 = .ok (.ireturn, 1) := by decide +kernel
theorem dX11_isGood_0 : decode cX11_isGood 0 = .ok (.aload_n 0, 1) := by decide +kernel
theorem dX11_isGood_1 : decode cX11_isGood 1 = .ok (.getfield 138, 3) := by decide +kernel
theorem dX11_isGood_4 : decode cX11_isGood 4 = .ok (.ifCond .ne 7, 3) := by decide +kernel
theorem dX11_isGood_7 : decode cX11_isGood 7 = .ok (.iconst 1, 1) := by decide +kernel
theorem dX11_isGood_8 : decode cX11_isGood 8 = .ok (.goto 4, 3) := by decide +kernel
theorem dX11_isGood_11 : decode cX11_isGood 11 = .ok (.iconst 0, 1) := by decide +kernel
theorem dX11_isGood_12 : decode cX11_isGood 12 = .ok (.ireturn, 1) := by decide +kernel
theorem dX11_isLetter_0 : decode cX11_isLetter 0 = .ok (.iload_n 0, 1) := by decide +kernel
theorem dX11_isLetter_1 : decode cX11_isLetter 1 = .ok (.bipush 97, 2) := by decide +kernel
theorem dX11_isLetter_3 : decode cX11_isLetter 3 = .ok (.if_icmp .lt 13, 3) := by decide +kernel
theorem dX11_isLetter_6 : decode cX11_isLetter 6 = .ok (.iload_n 0, 1) := by decide +kernel
theorem dX11_isLetter_7 : decode cX11_isLetter 7 = .ok (.bipush 122, 2) := by decide +kernel
theorem dX11_isLetter_9 : decode cX11_isLetter 9 = .ok (.if_icmp .gt 7, 3) := by decide +kernel
theorem dX11_isLetter_12 : decode cX11_isLetter 12 = .ok (.iconst 1, 1) := by decide +kernel
theorem dX11_isLetter_13 : decode cX11_isLetter 13 = .ok (.goto 4, 3) := by decide +kernel
theorem dX11_isLetter_16 : decode cX11_isLetter 16 = .ok (.iconst 0, 1) := by decide +kernel
theorem dX11_isLetter_17 : decode cX11_isLetter 17 = .ok (.ireturn, 1) := by decide +kernel
theorem dX11_isWord_0 : decode cX11_isWord 0 = .ok (.aload_n 0, 1) := by decide +kernel
theorem dX11_isWord_1 : decode cX11_isWord 1 = .ok (.getfield 151, 3) := by decide +kernel
theorem dX11_isWord_4 : decode cX11_isWord 4 = .ok (.iconst 2, 1) := by decide +kernel
theorem dX11_isWord_5 : decode cX11_isWord 5 = .ok (.if_icmp .ne 16, 3) := by decide +kernel
theorem dX11_isWord_8 : decode cX11_isWord 8 = .ok (.aload_n 0, 1) := by decide +kernel
theorem dX11_isWord_9 : decode cX11_isWord 9 = .ok (.getfield 158, 3) := by decide +kernel
theorem dX11_isWord_12 : decode cX11_isWord 12 = .ok (.lload_n 1, 1) := by decide +kernel
theorem dX11_isWord_13 : decode cX11_isWord 13 = .ok (.lcmp, 1) := by decide +kernel
theorem dX11_isWord_14 : decode cX11_isWord 14 = .ok (.ifCond .ne 7, 3) := by decide +kernel
theorem dX11_isWord_17 : decode cX11_isWord 17 = .ok (.iconst 1, 1) := by decide +kernel
theorem dX11_isWord_18 : decode cX11_isWord 18 = .ok (.goto 4, 3) := by decide +kernel
theorem dX11_isWord_21 : decode cX11_isWord 21 = .ok (.iconst 0, 1) := by decide +kernel
theorem dX11_isWord_22 : decode cX11_isWord 22 = .ok (.ireturn, 1) := by decide +kernel
theorem dX11_misplaced_0 : decode cX11_misplaced 0 = .ok (.aload_n 0, 1) := by decide +kernel
theorem dX11_misplaced_1 : decode cX11_misplaced 1 = .ok (.aload_n 0, 1) := by decide +kernel
theorem dX11_misplaced_2 : decode cX11_misplaced 2 = .ok (.getfield 151, 3) := by decide +kernel
theorem dX11_misplaced_5 : decode cX11_misplaced 5 = .ok (.iconst 1, 1) := by decide +kernel
theorem dX11_misplaced_6 : decode cX11_misplaced 6 = .ok (.if_icmp .ne 7, 3) := by decide +kernel
theorem dX11_misplaced_9 : decode cX11_misplaced 9 = .ok (.iconst 1, 1) := by decide +kernel
theorem dX11_misplaced_10 : decode cX11_misplaced 10 = .ok (.goto 4, 3) := by decide +kernel
theorem dX11_misplaced_13 : decode cX11_misplaced 13 = .ok (.iconst 2, 1) := by decide +kernel
theorem dX11_misplaced_14 : decode cX11_misplaced 14 = .ok (.aload_n 0, 1) := by decide +kernel
theorem dX11_misplaced_15 : decode cX11_misplaced 15 = .ok (.getfield 144, 3) := by decide +kernel
theorem dX11_misplaced_18 : decode cX11_misplaced 18 = .ok (.invokevirtual 168, 3) := by decide +kernel
theorem dX11_misplaced_21 : decode cX11_misplaced 21 = .ok (.return_, 1) := by decide +kernel
theorem dX11_sign_0 : decode cX11_sign 0 = .ok (.iload_n 1, 1) := by decide +kernel
theorem dX11_sign_1 : decode cX11_sign 1 = .ok (.aload_n 0, 1) := by decide +kernel
theorem dX11_sign_2 : decode cX11_sign 2 = .ok (.getfield 135, 3) := by decide +kernel
theorem dX11_sign_5 : decode cX11_sign 5 = .ok (.if_icmp .ge 16, 3) := by decide +kernel
theorem dX11_sign_8 : decode cX11_sign 8 = .ok (.aload_n 0, 1) := by decide +kernel
theorem dX11_sign_9 : decode cX11_sign 9 = .ok (.getfield 13, 3) := by decide +kernel
theorem dX11_sign_12 : decode cX11_sign 12 = .ok (.iload_n 1, 1) := by decide +kernel
theorem dX11_sign_13 : decode cX11_sign 13 = .ok (.baload, 1) := by decide +kernel
theorem dX11_sign_14 : decode cX11_sign 14 = .ok (.sipush 255, 3) := by decide +kernel
theorem dX11_sign_17 : decode cX11_sign 17 = .ok (.iand, 1) := by decide +kernel
theorem dX11_sign_18 : decode cX11_sign 18 = .ok (.goto 4, 3) := by decide +kernel
theorem dX11_sign_21 : decode cX11_sign 21 = .ok (.iconst 0, 1) := by decide +kernel
theorem dX11_sign_22 : decode cX11_sign 22 = .ok (.ireturn, 1) := by decide +kernel
set_option maxRecDepth 20000 in
theorem ggX11_misplaced_X11_fails : GoodIn wsX11_misplaced wsX11_fails := goodIn_r _ [7, 8, 9, 10, 11, 12, 13, 14, 15, 16, 17, 18, 19, 20, 21, 22, 23, 24, 25, 26, 27, 28, 29, 30, 31, 32, 33, 34, 35, 36, 37, 38, 39, 40, 41, 42, 43, 44, 45, 46, 47, 48, 49, 50, 51, 52, 53, 54, 55, 56, 57, 58, 59, 60, 61, 62, 63] (by decide +kernel) (by decide +kernel)
set_option maxRecDepth 20000 in
theorem gX11_misplaced_X11_fails : GoodIn wsX11_misplaced (wsV RX11 168 RX11 yX11_fails wsX11_fails) := goodIn_app (goodIn_of _ (by decide +kernel)) ggX11_misplaced_X11_fails
def dig (X n : Nat) : Prop := X < 256 ^ n ∧ ∀ i, i < n → 97 ≤ X / 256 ^ i % 256 ∧ X / 256 ^ i % 256 < 123
theorem dig_0 : dig 0 0 := ⟨by decide, fun i h => absurd h (Nat.not_lt_zero i)⟩
theorem dig_1 {X n c : Nat} (h : dig X n) (h1 : 97 ≤ c) (h2 : c < 123) : dig (X * 256 + c) (n + 1) := by
  refine ⟨?_, fun i hi => ?_⟩
  · have h3 := h.1
    rw [Nat.pow_succ]
    omega
  · cases i with
    | zero =>
      rw [Nat.pow_zero, Nat.div_one]
      omega
    | succ i =>
      have e : (X * 256 + c) / 256 ^ (i + 1) = X / 256 ^ i := by
        rw [Nat.pow_succ, Nat.mul_comm (256 ^ i) 256, ← Nat.div_div_eq_div_mul, show (X * 256 + c) / 256 = X by omega]
      rw [e]
      exact h.2 i (by omega)
theorem dig_ne {X n i : Nat} (h : dig X n) (hi : i < n) : 0 < X / 256 ^ i := by
  have h1 := (h.2 i hi).1
  rcases Nat.eq_zero_or_pos (X / 256 ^ i) with h2 | h2
  · rw [h2] at h1; exact absurd h1 (by decide)
  · exact h2
theorem dig_end {X n : Nat} (h : dig X n) : X / 256 ^ n = 0 := Nat.div_eq_of_lt h.1
theorem dig_lt {X n : Nat} (h : dig X n) (hn : n ≤ 8) : X < 2 ^ 63 := by
  rcases Nat.eq_zero_or_pos n with rfl | h0
  · exact Nat.lt_of_lt_of_le h.1 (by decide)
  · have h1 := (h.2 (n - 1) (by omega)).2
    have h2 : X / 256 ^ (n - 1) < 256 := by
      rw [Nat.div_lt_iff_lt_mul (Nat.pow_pos (by decide)), Nat.mul_comm, ← Nat.pow_succ, show (n - 1).succ = n by omega]
      exact h.1
    rw [Nat.mod_eq_of_lt h2] at h1
    have h3 : X < 123 * 256 ^ (n - 1) := (Nat.div_lt_iff_lt_mul (Nat.pow_pos (by decide))).mp h1
    have h4 : 256 ^ (n - 1) ≤ 256 ^ 7 := Nat.pow_le_pow_right (by decide) (by omega)
    have h5 : (256 : Nat) ^ 7 = 72057594037927936 := by decide
    have h6 : (2 : Nat) ^ 63 = 9223372036854775808 := by decide
    omega
def dgx (v : Int64) (n : Nat) : Prop := ∃ X, v = lN X ∧ dig X n
def pk8 (v : Int64) : Prop := ∃ n, 1 ≤ n ∧ n ≤ 8 ∧ dgx v n
theorem dgx_0 : dgx 0 0 := ⟨0, rfl, dig_0⟩
theorem lN_bv (X : Nat) : (lN X).toBitVec = BitVec.ofNat 64 X := rfl
theorem or_256 {X c : Nat} (hc : c < 256) : X * 256 ||| c = X * 256 + c := by
  have h := Nat.two_pow_add_eq_or_of_lt (i := 8) (b := c) hc X
  rw [show (2 : Nat) ^ 8 = 256 by decide, Nat.mul_comm] at h
  exact h.symm
theorem nm_step {X c : Nat} {a b v : Int64} {y : Int32} (hX : X < 2 ^ 55) (hc : c < 256) (ea : (lN X : Int64) <<< ((8 : Int32).toInt64 &&& 63) = a) (eb : Int32.toInt64 y = b) (hy : y = nI c) (e : a ||| b = v) : v = lN (X * 256 + c) := by
  subst ea; subst eb; subst hy; subst e
  rw [nI_l (by omega), ← or_256 hc]
  apply Int64.toBitVec_inj.mp
  show (BitVec.ofNat 64 X) <<< (8 : Nat) ||| BitVec.ofNat 64 c = BitVec.ofNat 64 (X * 256 ||| c)
  rw [BitVec.ofNat_or]
  congr 1
  apply BitVec.eq_of_toNat_eq
  simp [BitVec.toNat_shiftLeft, Nat.shiftLeft_eq]
theorem dgx_1 {n c : Nat} {u a b v : Int64} {y : Int32} (h : dgx u n) (hn : n ≤ 7) (h1 : 97 ≤ c) (h2 : c < 123) (ea : u <<< ((8 : Int32).toInt64 &&& 63) = a) (eb : Int32.toInt64 y = b) (hy : y = nI c) (e : a ||| b = v) : dgx v (n + 1) := by
  obtain ⟨X, rfl, hd⟩ := h
  have hX : X < 2 ^ 55 ∨ 2 ^ 55 ≤ X := by omega
  have hb : X < 256 ^ 7 := Nat.lt_of_lt_of_le hd.1 (Nat.pow_le_pow_right (by decide) hn)
  have h5 : (256 : Nat) ^ 7 = 72057594037927936 := by decide
  refine ⟨X * 256 + c, ?_, dig_1 hd h1 h2⟩
  subst ea; subst eb; subst hy; subst e
  rw [nI_l (by omega), ← or_256 (by omega)]
  apply Int64.toBitVec_inj.mp
  show (BitVec.ofNat 64 X) <<< (8 : Nat) ||| BitVec.ofNat 64 c = BitVec.ofNat 64 (X * 256 ||| c)
  rw [BitVec.ofNat_or]
  congr 1
  apply BitVec.eq_of_toNat_eq
  simp [BitVec.toNat_shiftLeft, Nat.shiftLeft_eq]
theorem cmp_0 {x y : Int64} (h : lg_cmp x y = 0) : x = y := by
  unfold lg_cmp at h
  by_cases h1 : x > y
  · rw [if_pos h1] at h; exact absurd h (by decide)
  · rw [if_neg h1] at h
    by_cases h2 : x = y
    · exact h2
    · rw [if_neg h2] at h; exact absurd h (by decide)
theorem cmp_n {x y : Int64} (h : ¬ lg_cmp x y = 0) : x ≠ y := by
  intro e
  subst e
  exact h (cmp_same x)
def IW (fw : Nat → Int32) (fn : Nat → Int64) : Prop := ∀ b, b < 2 → ∃ n, n ≤ 24 ∧ fw b = nI n ∧ ∀ j, j < n → pk8 (fn (24 * b + j))
def kpL (g f : Nat → Int64) (b : Nat) : Prop := ∀ j, j < 24 → g (24 * b + j) = f (24 * b + j)
def rg01 (f : Nat → Int32) (n : Nat) : Prop := ∀ j, j < n → f j = 0 ∨ f j = 1
theorem rg01_up {f g : Nat → Int32} {n k : Nat} {v : Int32} (h : rg01 f n) (hk : k < 2 ^ 31) (hv : v = 0 ∨ v = 1) (e : upd f (Int32.toNatClampNeg (nI k)) (vp_nar .boolean v) = g) : rg01 g n := by
  intro j hj
  subst e
  rw [nI_clamp hk]
  by_cases hjk : j = k
  · subst hjk; rw [pk_us]; rcases hv with rfl | rfl <;> decide
  · rw [pk_un hjk]; exact h j hj
theorem IW_word {fw gw : Nat → Int32} {fn gn : Nat → Int64} {b n : Nat} {v : Int64} (h : IW fw fn) (hb : b < 2) (hn : n < 24) (e : fw b = nI n) (hv : pk8 v) (e1 : vp_updL fn (Int32.toNatClampNeg (nI (24 * b + n))) v = gn) (e2 : upd fw (Int32.toNatClampNeg (nI b)) (nI (n + 1)) = gw) : IW gw gn := by
  subst e1; subst e2
  rw [nI_clamp (by omega), nI_clamp (by omega)]
  intro c hc
  obtain ⟨m, hm, em, hp⟩ := h c hc
  by_cases hcb : c = b
  · subst hcb
    refine ⟨n + 1, by omega, pk_us, fun j hj => ?_⟩
    have e3 : m = n := (nI_eq (by omega) (by omega)).mp (em.symm.trans e)
    by_cases hjn : j = n
    · subst hjn; rw [pk_uLs]; exact hv
    · rw [pk_uLn (by omega)]; exact hp j (by omega)
  · refine ⟨m, hm, by rw [pk_un hcb]; exact em, fun j hj => ?_⟩
    rw [pk_uLn (by omega)]
    exact hp j hj
theorem IW_name {fw : Nat → Int32} {fn gn : Nat → Int64} {b n : Nat} {v : Int64} (h : IW fw fn) (hb : b < 2) (hn : n < 24) (e : fw b = nI n) (e1 : vp_updL fn (Int32.toNatClampNeg (nI (24 * b + n))) v = gn) : IW fw gn := by
  subst e1
  rw [nI_clamp (by omega)]
  intro c hc
  obtain ⟨m, hm, em, hp⟩ := h c hc
  refine ⟨m, hm, em, fun j hj => ?_⟩
  by_cases hcb : c = b
  · subst hcb
    have e3 : m = n := (nI_eq (by omega) (by omega)).mp (em.symm.trans e)
    rw [pk_uLn (by omega)]
    exact hp j hj
  · rw [pk_uLn (by omega)]
    exact hp j hj
theorem IW_clear {fw gw : Nat → Int32} {fn : Nat → Int64} {b : Nat} (h : IW fw fn) (hb : b < 2) (e2 : upd fw (Int32.toNatClampNeg (nI b)) 0 = gw) : IW gw fn := by
  subst e2
  rw [nI_clamp (by omega)]
  intro c hc
  by_cases hcb : c = b
  · subst hcb; exact ⟨0, by omega, pk_us, fun j hj => absurd hj (Nat.not_lt_zero j)⟩
  · rw [pk_un hcb]; exact h c hc
theorem kpL_up {fn gn : Nat → Int64} {b c n : Nat} {v : Int64} (hbc : c + b = 1) (hn : n < 24) (e1 : vp_updL fn (Int32.toNatClampNeg (nI (24 * b + n))) v = gn) : kpL gn fn c := by
  subst e1
  rw [nI_clamp (by omega)]
  intro j hj
  rw [pk_uLn (by omega)]
theorem up_other {f g : Nat → Int32} {b c : Nat} {v : Int32} (hbc : c + b = 1) (e : upd f (Int32.toNatClampNeg (nI b)) v = g) : g c = f c := by
  subst e
  rw [nI_clamp (by omega), pk_un (by omega)]
theorem mu_ex {fk tk : Int32} {en e2 sz : Nat} (h : fk ≠ 0 ∨ tk = 0 ∨ en < e2) (h2 : e2 ≤ sz) : ∃ mu, ((mu = 0 ∧ (fk ≠ 0 ∨ tk = 0)) ∨ mu = 1 + (sz - e2)) ∧ mu < 1 + (sz - en) := by
  rcases h with h | h | h
  · exact ⟨0, Or.inl ⟨rfl, Or.inl h⟩, by omega⟩
  · exact ⟨0, Or.inl ⟨rfl, Or.inr h⟩, by omega⟩
  · exact ⟨1 + (sz - e2), Or.inr rfl, by omega⟩
theorem let_rng {q c : Nat} (hq : q < 26) (e : c = 97 + q) : 97 ≤ c ∧ c < 123 := by omega
theorem no_let {q : Nat} (hq : q < 26) (e : (0 : Int32) = nI (97 + q)) : False := by
  have h := (nI_eq (a := 0) (b := 97 + q) (by decide) (by omega)).mp e
  omega
set_option maxHeartbeats 4000000 in
set_option maxRecDepth 100000 in
theorem c_X11_sign (l : Launch) (D : va_G) (cB cI cJ cS cZ cO : ClassId) (sz : Nat) (o : Nat) (k : Nat) (m_tape : Nat) (m_text : Nat) (m_taped : Int32) (msz : Nat) (m_faultKind : Int32) (m_faultPlace : Int32) (m_at : Int32) (m_end : Int32) (m_token : Int32) (m_number : Int32) (m_name : Int64) (m_words : Nat) (m_errands : Nat) (m_alikes : Nat) (m_law : Nat) (m_worth : Nat) (m_times : Nat) (m_eWord : Nat) (m_eAfter : Nat) (m_sound : Nat) (m_isLaw : Nat) (m_wName : Nat) (m_bank : Int32) (m_rb : Int32) (m_follow : Nat) (m_lengths : Nat) (m_said : Nat) (m_latest : Int32) (m_talked : Int32) (m_sum : Int32) (m_doneSet : Int32) (m_w : Int32) (m_more : Nat) (m_laidRow : Nat) (m_laid : Int32) (m_piece : Nat) (m_far : Nat) (m_steps : Nat) (m_ends : Nat) (m_hPlace : Nat) (m_hWhat : Nat) (m_hValue : Nat) (m_hTold : Nat) (m_hUntold : Nat) (m_sounds : Int32) (m_time : Int32) (m_ways : Nat) (m_goesOn : Nat) (m_boxMany : Nat) (m_boxLatest : Nat) (m_boxSum : Nat) (m_boxW : Nat) (m_boxDone : Nat) (m_boxSaid : Nat) (ft : Nat → Int32) (hms : msz ≤ 1600) (hk : k < 2147483648) : Met l yX11_sign wsX11_sign ({ frames := 0, cells := 0, slots := 0, locals := 0 }) (xPre D (tyL cB cI cJ cS cZ cO) [(o, .inr (11, [.ref m_tape, .ref m_text, .int m_taped, .int (nI msz), .int m_faultKind, .int m_faultPlace, .int m_at, .int m_end, .int m_token, .int m_number, .long m_name, .ref m_words, .ref m_errands, .ref m_alikes, .ref m_law, .ref m_worth, .ref m_times, .ref m_eWord, .ref m_eAfter, .ref m_sound, .ref m_isLaw, .ref m_wName, .int m_bank, .int m_rb, .ref m_follow, .ref m_lengths, .ref m_said, .int m_latest, .int m_talked, .int m_sum, .int m_doneSet, .int m_w, .ref m_more, .ref m_laidRow, .int m_laid, .ref m_piece, .ref m_far, .ref m_steps, .ref m_ends, .ref m_hPlace, .ref m_hWhat, .ref m_hValue, .ref m_hTold, .ref m_hUntold, .int m_sounds, .int m_time, .ref m_ways, .ref m_goesOn, .ref m_boxMany, .ref m_boxLatest, .ref m_boxSum, .ref m_boxW, .ref m_boxDone, .ref m_boxSaid])), (m_text, .inl (cB, 1600, .inl ft))] sz [.ref o, .int (nI k)]) (xQi D (tyL cB cI cJ cS cZ cO) (va_A [(o, .inr (11, [.ref m_tape, .ref m_text, .int m_taped, .int (nI msz), .int m_faultKind, .int m_faultPlace, .int m_at, .int m_end, .int m_token, .int m_number, .long m_name, .ref m_words, .ref m_errands, .ref m_alikes, .ref m_law, .ref m_worth, .ref m_times, .ref m_eWord, .ref m_eAfter, .ref m_sound, .ref m_isLaw, .ref m_wName, .int m_bank, .int m_rb, .ref m_follow, .ref m_lengths, .ref m_said, .int m_latest, .int m_talked, .int m_sum, .int m_doneSet, .int m_w, .ref m_more, .ref m_laidRow, .int m_laid, .ref m_piece, .ref m_far, .ref m_steps, .ref m_ends, .ref m_hPlace, .ref m_hWhat, .ref m_hValue, .ref m_hTold, .ref m_hUntold, .int m_sounds, .int m_time, .ref m_ways, .ref m_goesOn, .ref m_boxMany, .ref m_boxLatest, .ref m_boxSum, .ref m_boxW, .ref m_boxDone, .ref m_boxSaid])), (m_text, .inl (cB, 1600, .inl ft))] sz) (fun (r : Int32) (u : va_W) => u = [(o, .inr (11, [.ref m_tape, .ref m_text, .int m_taped, .int (nI msz), .int m_faultKind, .int m_faultPlace, .int m_at, .int m_end, .int m_token, .int m_number, .long m_name, .ref m_words, .ref m_errands, .ref m_alikes, .ref m_law, .ref m_worth, .ref m_times, .ref m_eWord, .ref m_eAfter, .ref m_sound, .ref m_isLaw, .ref m_wName, .int m_bank, .int m_rb, .ref m_follow, .ref m_lengths, .ref m_said, .int m_latest, .int m_talked, .int m_sum, .int m_doneSet, .int m_w, .ref m_more, .ref m_laidRow, .int m_laid, .ref m_piece, .ref m_far, .ref m_steps, .ref m_ends, .ref m_hPlace, .ref m_hWhat, .ref m_hValue, .ref m_hTold, .ref m_hUntold, .int m_sounds, .int m_time, .ref m_ways, .ref m_goesOn, .ref m_boxMany, .ref m_boxLatest, .ref m_boxSum, .ref m_boxW, .ref m_boxDone, .ref m_boxSaid])), (m_text, .inl (cB, 1600, .inl ft))] ∧ ((k < msz ∧ r = ft k &&& 255) ∨ (msz ≤ k ∧ r = 0)))) 0 0 (va_A [(o, .inr (11, [.ref m_tape, .ref m_text, .int m_taped, .int (nI msz), .int m_faultKind, .int m_faultPlace, .int m_at, .int m_end, .int m_token, .int m_number, .long m_name, .ref m_words, .ref m_errands, .ref m_alikes, .ref m_law, .ref m_worth, .ref m_times, .ref m_eWord, .ref m_eAfter, .ref m_sound, .ref m_isLaw, .ref m_wName, .int m_bank, .int m_rb, .ref m_follow, .ref m_lengths, .ref m_said, .int m_latest, .int m_talked, .int m_sum, .int m_doneSet, .int m_w, .ref m_more, .ref m_laidRow, .int m_laid, .ref m_piece, .ref m_far, .ref m_steps, .ref m_ends, .ref m_hPlace, .ref m_hWhat, .ref m_hValue, .ref m_hTold, .ref m_hUntold, .int m_sounds, .int m_time, .ref m_ways, .ref m_goesOn, .ref m_boxMany, .ref m_boxLatest, .ref m_boxSum, .ref m_boxW, .ref m_boxDone, .ref m_boxSaid])), (m_text, .inl (cB, 1600, .inl ft))] sz) := by
  refine Met.ofW (cc := cX11_sign) (maxL := 2) (ret := (some .int)) (by decide) rfl ?_
  intro p e s m args below meth c s₁ B hml hv
  obtain ⟨rfl, hsz, hP, hK, hD0, hN⟩ := hv
  have hx := B.exec
  have hb := B.bytes
  have hr := B.returns
  have hts := atoms_spec (ws := wsX11_sign) B.pre
  have hown : s.vm.findClass RX11 = some m.cls := findClass_of_methodNamed B.named
  have hlocks := B.notSynchronized
  subst hsz
  have hD := hD0.self (sz := s.heap.size)
  generalize hAe : va_A [(o, .inr (11, [.ref m_tape, .ref m_text, .int m_taped, .int (nI msz), .int m_faultKind, .int m_faultPlace, .int m_at, .int m_end, .int m_token, .int m_number, .long m_name, .ref m_words, .ref m_errands, .ref m_alikes, .ref m_law, .ref m_worth, .ref m_times, .ref m_eWord, .ref m_eAfter, .ref m_sound, .ref m_isLaw, .ref m_wName, .int m_bank, .int m_rb, .ref m_follow, .ref m_lengths, .ref m_said, .int m_latest, .int m_talked, .int m_sum, .int m_doneSet, .int m_w, .ref m_more, .ref m_laidRow, .int m_laid, .ref m_piece, .ref m_far, .ref m_steps, .ref m_ends, .ref m_hPlace, .ref m_hWhat, .ref m_hValue, .ref m_hTold, .ref m_hUntold, .int m_sounds, .int m_time, .ref m_ways, .ref m_goesOn, .ref m_boxMany, .ref m_boxLatest, .ref m_boxSum, .ref m_boxW, .ref m_boxDone, .ref m_boxSaid])), (m_text, .inl (cB, 1600, .inl ft))] s.heap.size = A at hD ⊢
  have hA : ∀ q : Nat, s.heap.size ≤ q → A q := fun q h => by rw [← hAe]; exact Or.inr h
  have hS : va_S A s.heap s.heap [] := va_S.rf
  have hP : va_P D vwCl [(o, .inr (11, [.ref m_tape, .ref m_text, .int m_taped, .int (nI msz), .int m_faultKind, .int m_faultPlace, .int m_at, .int m_end, .int m_token, .int m_number, .long m_name, .ref m_words, .ref m_errands, .ref m_alikes, .ref m_law, .ref m_worth, .ref m_times, .ref m_eWord, .ref m_eAfter, .ref m_sound, .ref m_isLaw, .ref m_wName, .int m_bank, .int m_rb, .ref m_follow, .ref m_lengths, .ref m_said, .int m_latest, .int m_talked, .int m_sum, .int m_doneSet, .int m_w, .ref m_more, .ref m_laidRow, .int m_laid, .ref m_piece, .ref m_far, .ref m_steps, .ref m_ends, .ref m_hPlace, .ref m_hWhat, .ref m_hValue, .ref m_hTold, .ref m_hUntold, .int m_sounds, .int m_time, .ref m_ways, .ref m_goesOn, .ref m_boxMany, .ref m_boxLatest, .ref m_boxSum, .ref m_boxW, .ref m_boxDone, .ref m_boxSaid])), (m_text, .inl (cB, 1600, .inl ft))] s.heap := hP
  have hl := lv_entry ([.ref o, .int (nI k)]) (n := 2) (Nat.le_of_ble_eq_true rfl)
  rw [lg_entry_eq]
  generalize (lg_sl ([.ref o, .int (nI k)]) ++ List.replicate (2 - (lg_sl ([.ref o, .int (nI k)])).length) Slot.unset).toArray = ls at hl ⊢
  have hl : lv_has ls 2 [(0, .ref o), (1, .int (nI k))] := hl
  refine lv_iload_n hx hb dX11_sign_0 rfl (lv_at hl 1 rfl) ?_
  refine lv_aload_n hx hb dX11_sign_1 rfl (lv_at hl 0 rfl) ?_
  refine va_get (D := D) (ci := 11) (v := .int (nI msz)) (C := RX11) (T := TX11) (N := 54) hx hb hts (by decide +kernel) hown hK hP 0 rfl rfl 3 (by decide) (hts (.fieldLink RX11 135 "LastLetterModel" "size" "I") (by decide +kernel)) (fun _ h9 => h9) rfl dX11_sign_2 ?_
  refine lv_icmp_ge (tgt := 21) hx hb dX11_sign_5 (by decide) (fun c_1 => ?_) (fun c_1 => ?_)
  · have dc_1 : msz ≤ k := (nI_leI (a := msz) (b := k) (by omega) (by omega)).mp c_1
    refine lv_iconst (v := 0) hx hb dX11_sign_21 (by decide) ?_
    have hP9 := hP.sub (ws' := [(o, .inr (11, [.ref m_tape, .ref m_text, .int m_taped, .int (nI msz), .int m_faultKind, .int m_faultPlace, .int m_at, .int m_end, .int m_token, .int m_number, .long m_name, .ref m_words, .ref m_errands, .ref m_alikes, .ref m_law, .ref m_worth, .ref m_times, .ref m_eWord, .ref m_eAfter, .ref m_sound, .ref m_isLaw, .ref m_wName, .int m_bank, .int m_rb, .ref m_follow, .ref m_lengths, .ref m_said, .int m_latest, .int m_talked, .int m_sum, .int m_doneSet, .int m_w, .ref m_more, .ref m_laidRow, .int m_laid, .ref m_piece, .ref m_far, .ref m_steps, .ref m_ends, .ref m_hPlace, .ref m_hWhat, .ref m_hValue, .ref m_hTold, .ref m_hUntold, .int m_sounds, .int m_time, .ref m_ways, .ref m_goesOn, .ref m_boxMany, .ref m_boxLatest, .ref m_boxSum, .ref m_boxW, .ref m_boxDone, .ref m_boxSaid])), (m_text, .inl (cB, 1600, .inl ft))]) [0, 1] rfl
    have hD9 := hD.sub (ws' := [(o, .inr (11, [.ref m_tape, .ref m_text, .int m_taped, .int (nI msz), .int m_faultKind, .int m_faultPlace, .int m_at, .int m_end, .int m_token, .int m_number, .long m_name, .ref m_words, .ref m_errands, .ref m_alikes, .ref m_law, .ref m_worth, .ref m_times, .ref m_eWord, .ref m_eAfter, .ref m_sound, .ref m_isLaw, .ref m_wName, .int m_bank, .int m_rb, .ref m_follow, .ref m_lengths, .ref m_said, .int m_latest, .int m_talked, .int m_sum, .int m_doneSet, .int m_w, .ref m_more, .ref m_laidRow, .int m_laid, .ref m_piece, .ref m_far, .ref m_steps, .ref m_ends, .ref m_hPlace, .ref m_hWhat, .ref m_hValue, .ref m_hTold, .ref m_hUntold, .int m_sounds, .int m_time, .ref m_ways, .ref m_goesOn, .ref m_boxMany, .ref m_boxLatest, .ref m_boxSum, .ref m_boxW, .ref m_boxDone, .ref m_boxSaid])), (m_text, .inl (cB, 1600, .inl ft))]) [0, 1] (by decide) rfl
    refine W.widen (k := 0) (n := 0) (Nat.le_of_ble_eq_true rfl) (Nat.le_of_ble_eq_true rfl) ?_
    exact W.iret (v := 0) hx hb hr (fun tz htz hWz => ⟨⟨0, [(o, .inr (11, [.ref m_tape, .ref m_text, .int m_taped, .int (nI msz), .int m_faultKind, .int m_faultPlace, .int m_at, .int m_end, .int m_token, .int m_number, .long m_name, .ref m_words, .ref m_errands, .ref m_alikes, .ref m_law, .ref m_worth, .ref m_times, .ref m_eWord, .ref m_eAfter, .ref m_sound, .ref m_isLaw, .ref m_wName, .int m_bank, .int m_rb, .ref m_follow, .ref m_lengths, .ref m_said, .int m_latest, .int m_talked, .int m_sum, .int m_doneSet, .int m_w, .ref m_more, .ref m_laidRow, .int m_laid, .ref m_piece, .ref m_far, .ref m_steps, .ref m_ends, .ref m_hPlace, .ref m_hWhat, .ref m_hValue, .ref m_hTold, .ref m_hUntold, .int m_sounds, .int m_time, .ref m_ways, .ref m_goesOn, .ref m_boxMany, .ref m_boxLatest, .ref m_boxSum, .ref m_boxW, .ref m_boxDone, .ref m_boxSaid])), (m_text, .inl (cB, 1600, .inl ft))], rfl, ⟨rfl, (Or.inr ⟨by omega, rfl⟩)⟩, by rw [htz]; exact hP9, va_K.moved hWz.alike hK, hD9⟩, hS.F htz⟩) hS.2.2 dX11_sign_22
  · have dc_1 : ¬ msz ≤ k := fun h => c_1 ((nI_leI (a := msz) (b := k) (by omega) (by omega)).mpr h)
    refine lv_aload_n hx hb dX11_sign_8 rfl (lv_at hl 0 rfl) ?_
    refine va_get (D := D) (ci := 11) (v := .ref m_text) (C := RX11) (T := TX11) (N := 54) hx hb hts (by decide +kernel) hown hK hP 0 rfl rfl 1 (by decide) (hts (.fieldLink RX11 13 "LastLetterModel" "text" "[B") (by decide +kernel)) (fun _ h9 => h9) rfl dX11_sign_9 ?_
    refine lv_iload_n hx hb dX11_sign_12 rfl (lv_at hl 1 rfl) ?_
    refine va_bald hx hb hK hP 1 0 rfl rfl (vp_in_nI (by omega) (by omega)) dX11_sign_13 ?_
    refine xb_top (y := ft k) (by rw [nI_clamp (by omega)]) ?_
    refine lv_sipush (v := 255) hx hb dX11_sign_14 (by decide) ?_
    refine lv_iand hx hb dX11_sign_17 ?_
    refine lv_goto (tgt := 22) hx hb dX11_sign_18 (by decide) ?_
    have hP9 := hP.sub (ws' := [(o, .inr (11, [.ref m_tape, .ref m_text, .int m_taped, .int (nI msz), .int m_faultKind, .int m_faultPlace, .int m_at, .int m_end, .int m_token, .int m_number, .long m_name, .ref m_words, .ref m_errands, .ref m_alikes, .ref m_law, .ref m_worth, .ref m_times, .ref m_eWord, .ref m_eAfter, .ref m_sound, .ref m_isLaw, .ref m_wName, .int m_bank, .int m_rb, .ref m_follow, .ref m_lengths, .ref m_said, .int m_latest, .int m_talked, .int m_sum, .int m_doneSet, .int m_w, .ref m_more, .ref m_laidRow, .int m_laid, .ref m_piece, .ref m_far, .ref m_steps, .ref m_ends, .ref m_hPlace, .ref m_hWhat, .ref m_hValue, .ref m_hTold, .ref m_hUntold, .int m_sounds, .int m_time, .ref m_ways, .ref m_goesOn, .ref m_boxMany, .ref m_boxLatest, .ref m_boxSum, .ref m_boxW, .ref m_boxDone, .ref m_boxSaid])), (m_text, .inl (cB, 1600, .inl ft))]) [0, 1] rfl
    have hD9 := hD.sub (ws' := [(o, .inr (11, [.ref m_tape, .ref m_text, .int m_taped, .int (nI msz), .int m_faultKind, .int m_faultPlace, .int m_at, .int m_end, .int m_token, .int m_number, .long m_name, .ref m_words, .ref m_errands, .ref m_alikes, .ref m_law, .ref m_worth, .ref m_times, .ref m_eWord, .ref m_eAfter, .ref m_sound, .ref m_isLaw, .ref m_wName, .int m_bank, .int m_rb, .ref m_follow, .ref m_lengths, .ref m_said, .int m_latest, .int m_talked, .int m_sum, .int m_doneSet, .int m_w, .ref m_more, .ref m_laidRow, .int m_laid, .ref m_piece, .ref m_far, .ref m_steps, .ref m_ends, .ref m_hPlace, .ref m_hWhat, .ref m_hValue, .ref m_hTold, .ref m_hUntold, .int m_sounds, .int m_time, .ref m_ways, .ref m_goesOn, .ref m_boxMany, .ref m_boxLatest, .ref m_boxSum, .ref m_boxW, .ref m_boxDone, .ref m_boxSaid])), (m_text, .inl (cB, 1600, .inl ft))]) [0, 1] (by decide) rfl
    refine W.widen (k := 0) (n := 0) (Nat.le_of_ble_eq_true rfl) (Nat.le_of_ble_eq_true rfl) ?_
    exact W.iret (v := (ft k) &&& 255) hx hb hr (fun tz htz hWz => ⟨⟨(ft k) &&& 255, [(o, .inr (11, [.ref m_tape, .ref m_text, .int m_taped, .int (nI msz), .int m_faultKind, .int m_faultPlace, .int m_at, .int m_end, .int m_token, .int m_number, .long m_name, .ref m_words, .ref m_errands, .ref m_alikes, .ref m_law, .ref m_worth, .ref m_times, .ref m_eWord, .ref m_eAfter, .ref m_sound, .ref m_isLaw, .ref m_wName, .int m_bank, .int m_rb, .ref m_follow, .ref m_lengths, .ref m_said, .int m_latest, .int m_talked, .int m_sum, .int m_doneSet, .int m_w, .ref m_more, .ref m_laidRow, .int m_laid, .ref m_piece, .ref m_far, .ref m_steps, .ref m_ends, .ref m_hPlace, .ref m_hWhat, .ref m_hValue, .ref m_hTold, .ref m_hUntold, .int m_sounds, .int m_time, .ref m_ways, .ref m_goesOn, .ref m_boxMany, .ref m_boxLatest, .ref m_boxSum, .ref m_boxW, .ref m_boxDone, .ref m_boxSaid])), (m_text, .inl (cB, 1600, .inl ft))], rfl, ⟨rfl, (Or.inl ⟨by omega, rfl⟩)⟩, by rw [htz]; exact hP9, va_K.moved hWz.alike hK, hD9⟩, hS.F htz⟩) hS.2.2 dX11_sign_22

set_option maxHeartbeats 4000000 in
set_option maxRecDepth 100000 in
theorem c_X11_isLetter (l : Launch) (D : va_G) (cB cI cJ cS cZ cO : ClassId) (sz : Nat) (x : Int32) : Met l yX11_isLetter wsX11_isLetter ({ frames := 0, cells := 0, slots := 0, locals := 0 }) (xPre D (tyL cB cI cJ cS cZ cO) [] sz [.int x]) (xQi D (tyL cB cI cJ cS cZ cO) (va_A [] sz) (fun (r : Int32) (u : va_W) => u = [] ∧ (r = 0 ∨ r = 1) ∧ (r = 1 → ∃ q, q < 26 ∧ x = nI (97 + q)))) 0 0 (va_A [] sz) := by
  refine Met.ofW (cc := cX11_isLetter) (maxL := 1) (ret := (some .boolean)) (by decide) rfl ?_
  intro p e s m args below meth c s₁ B hml hv
  obtain ⟨rfl, hsz, hP, hK, hD0, hN⟩ := hv
  have hx := B.exec
  have hb := B.bytes
  have hr := B.returns
  have hts := atoms_spec (ws := wsX11_isLetter) B.pre
  have hown : s.vm.findClass RX11 = some m.cls := findClass_of_methodNamed B.named
  have hlocks := B.notSynchronized
  subst hsz
  have hD := hD0.self (sz := s.heap.size)
  generalize hAe : va_A [] s.heap.size = A at hD ⊢
  have hA : ∀ q : Nat, s.heap.size ≤ q → A q := fun q h => by rw [← hAe]; exact Or.inr h
  have hS : va_S A s.heap s.heap [] := va_S.rf
  have hP : va_P D vwCl [] s.heap := hP
  have hl := lv_entry ([.int x]) (n := 1) (Nat.le_of_ble_eq_true rfl)
  rw [lg_entry_eq]
  generalize (lg_sl ([.int x]) ++ List.replicate (1 - (lg_sl ([.int x])).length) Slot.unset).toArray = ls at hl ⊢
  have hl : lv_has ls 1 [(0, .int x)] := hl
  refine lv_iload_n hx hb dX11_isLetter_0 rfl (lv_at hl 0 rfl) ?_
  refine lv_bipush (v := 97) hx hb dX11_isLetter_1 (by decide) ?_
  refine lv_icmp_lt (tgt := 16) hx hb dX11_isLetter_3 (by decide) (fun c_1 => ?_) (fun c_1 => ?_)
  · refine lv_iconst (v := 0) hx hb dX11_isLetter_16 (by decide) ?_
    have hP9 := hP.sub (ws' := []) [] rfl
    have hD9 := hD.sub (ws' := []) [] (by decide) rfl
    refine W.widen (k := 0) (n := 0) (Nat.le_of_ble_eq_true rfl) (Nat.le_of_ble_eq_true rfl) ?_
    exact W.zret (v := 0) hx hb hr (by decide) (fun tz htz hWz => ⟨⟨0, [], rfl, ⟨rfl, (Or.inl rfl), (fun h => absurd h (by decide))⟩, by rw [htz]; exact hP9, va_K.moved hWz.alike hK, hD9⟩, hS.F htz⟩) hS.2.2 dX11_isLetter_17
  · refine lv_iload_n hx hb dX11_isLetter_6 rfl (lv_at hl 0 rfl) ?_
    refine lv_bipush (v := 122) hx hb dX11_isLetter_7 (by decide) ?_
    refine lv_icmp_gt (tgt := 16) hx hb dX11_isLetter_9 (by decide) (fun c_2 => ?_) (fun c_2 => ?_)
    · refine lv_iconst (v := 0) hx hb dX11_isLetter_16 (by decide) ?_
      have hP9 := hP.sub (ws' := []) [] rfl
      have hD9 := hD.sub (ws' := []) [] (by decide) rfl
      refine W.widen (k := 0) (n := 0) (Nat.le_of_ble_eq_true rfl) (Nat.le_of_ble_eq_true rfl) ?_
      exact W.zret (v := 0) hx hb hr (by decide) (fun tz htz hWz => ⟨⟨0, [], rfl, ⟨rfl, (Or.inl rfl), (fun h => absurd h (by decide))⟩, by rw [htz]; exact hP9, va_K.moved hWz.alike hK, hD9⟩, hS.F htz⟩) hS.2.2 dX11_isLetter_17
    · refine lv_iconst (v := 1) hx hb dX11_isLetter_12 (by decide) ?_
      refine lv_goto (tgt := 17) hx hb dX11_isLetter_13 (by decide) ?_
      have hP9 := hP.sub (ws' := []) [] rfl
      have hD9 := hD.sub (ws' := []) [] (by decide) rfl
      refine W.widen (k := 0) (n := 0) (Nat.le_of_ble_eq_true rfl) (Nat.le_of_ble_eq_true rfl) ?_
      exact W.zret (v := 1) hx hb hr (by decide) (fun tz htz hWz => ⟨⟨1, [], rfl, ⟨rfl, (Or.inr rfl), (fun _ => let_of c_1 c_2)⟩, by rw [htz]; exact hP9, va_K.moved hWz.alike hK, hD9⟩, hS.F htz⟩) hS.2.2 dX11_isLetter_17

set_option maxHeartbeats 4000000 in
set_option maxRecDepth 100000 in
theorem c_X11_isDigit (l : Launch) (D : va_G) (cB cI cJ cS cZ cO : ClassId) (sz : Nat) (x : Int32) : Met l yX11_isDigit wsX11_isDigit ({ frames := 0, cells := 0, slots := 0, locals := 0 }) (xPre D (tyL cB cI cJ cS cZ cO) [] sz [.int x]) (xQi D (tyL cB cI cJ cS cZ cO) (va_A [] sz) (fun (r : Int32) (u : va_W) => u = [] ∧ (r = 0 ∨ r = 1) ∧ ((r = 0 ∧ (x < 48 ∨ 57 < x)) ∨ (r = 1 ∧ ¬ x < 48 ∧ ¬ 57 < x)))) 0 0 (va_A [] sz) := by
  refine Met.ofW (cc := cX11_isDigit) (maxL := 1) (ret := (some .boolean)) (by decide) rfl ?_
  intro p e s m args below meth c s₁ B hml hv
  obtain ⟨rfl, hsz, hP, hK, hD0, hN⟩ := hv
  have hx := B.exec
  have hb := B.bytes
  have hr := B.returns
  have hts := atoms_spec (ws := wsX11_isDigit) B.pre
  have hown : s.vm.findClass RX11 = some m.cls := findClass_of_methodNamed B.named
  have hlocks := B.notSynchronized
  subst hsz
  have hD := hD0.self (sz := s.heap.size)
  generalize hAe : va_A [] s.heap.size = A at hD ⊢
  have hA : ∀ q : Nat, s.heap.size ≤ q → A q := fun q h => by rw [← hAe]; exact Or.inr h
  have hS : va_S A s.heap s.heap [] := va_S.rf
  have hP : va_P D vwCl [] s.heap := hP
  have hl := lv_entry ([.int x]) (n := 1) (Nat.le_of_ble_eq_true rfl)
  rw [lg_entry_eq]
  generalize (lg_sl ([.int x]) ++ List.replicate (1 - (lg_sl ([.int x])).length) Slot.unset).toArray = ls at hl ⊢
  have hl : lv_has ls 1 [(0, .int x)] := hl
  refine lv_iload_n hx hb dX11_isDigit_0 rfl (lv_at hl 0 rfl) ?_
  refine lv_bipush (v := 48) hx hb dX11_isDigit_1 (by decide) ?_
  refine lv_icmp_lt (tgt := 16) hx hb dX11_isDigit_3 (by decide) (fun c_1 => ?_) (fun c_1 => ?_)
  · refine lv_iconst (v := 0) hx hb dX11_isDigit_16 (by decide) ?_
    have hP9 := hP.sub (ws' := []) [] rfl
    have hD9 := hD.sub (ws' := []) [] (by decide) rfl
    refine W.widen (k := 0) (n := 0) (Nat.le_of_ble_eq_true rfl) (Nat.le_of_ble_eq_true rfl) ?_
    exact W.zret (v := 0) hx hb hr (by decide) (fun tz htz hWz => ⟨⟨0, [], rfl, ⟨rfl, (Or.inl rfl), (Or.inl ⟨rfl, Or.inl c_1⟩)⟩, by rw [htz]; exact hP9, va_K.moved hWz.alike hK, hD9⟩, hS.F htz⟩) hS.2.2 dX11_isDigit_17
  · refine lv_iload_n hx hb dX11_isDigit_6 rfl (lv_at hl 0 rfl) ?_
    refine lv_bipush (v := 57) hx hb dX11_isDigit_7 (by decide) ?_
    refine lv_icmp_gt (tgt := 16) hx hb dX11_isDigit_9 (by decide) (fun c_2 => ?_) (fun c_2 => ?_)
    · refine lv_iconst (v := 0) hx hb dX11_isDigit_16 (by decide) ?_
      have hP9 := hP.sub (ws' := []) [] rfl
      have hD9 := hD.sub (ws' := []) [] (by decide) rfl
      refine W.widen (k := 0) (n := 0) (Nat.le_of_ble_eq_true rfl) (Nat.le_of_ble_eq_true rfl) ?_
      exact W.zret (v := 0) hx hb hr (by decide) (fun tz htz hWz => ⟨⟨0, [], rfl, ⟨rfl, (Or.inl rfl), (Or.inl ⟨rfl, Or.inr c_2⟩)⟩, by rw [htz]; exact hP9, va_K.moved hWz.alike hK, hD9⟩, hS.F htz⟩) hS.2.2 dX11_isDigit_17
    · refine lv_iconst (v := 1) hx hb dX11_isDigit_12 (by decide) ?_
      refine lv_goto (tgt := 17) hx hb dX11_isDigit_13 (by decide) ?_
      have hP9 := hP.sub (ws' := []) [] rfl
      have hD9 := hD.sub (ws' := []) [] (by decide) rfl
      refine W.widen (k := 0) (n := 0) (Nat.le_of_ble_eq_true rfl) (Nat.le_of_ble_eq_true rfl) ?_
      exact W.zret (v := 1) hx hb hr (by decide) (fun tz htz hWz => ⟨⟨1, [], rfl, ⟨rfl, (Or.inr rfl), (Or.inr ⟨rfl, c_1, c_2⟩)⟩, by rw [htz]; exact hP9, va_K.moved hWz.alike hK, hD9⟩, hS.F htz⟩) hS.2.2 dX11_isDigit_17

set_option maxHeartbeats 4000000 in
set_option maxRecDepth 100000 in
theorem c_X11_fails (l : Launch) (D : va_G) (cB cI cJ cS cZ cO : ClassId) (sz : Nat) (o : Nat) (x : Int32) (y : Int32) (m_tape : Nat) (m_text : Nat) (m_taped : Int32) (m_size : Int32) (fk : Int32) (fp : Int32) (m_at : Int32) (m_end : Int32) (m_token : Int32) (m_number : Int32) (m_name : Int64) (m_words : Nat) (m_errands : Nat) (m_alikes : Nat) (m_law : Nat) (m_worth : Nat) (m_times : Nat) (m_eWord : Nat) (m_eAfter : Nat) (m_sound : Nat) (m_isLaw : Nat) (m_wName : Nat) (m_bank : Int32) (m_rb : Int32) (m_follow : Nat) (m_lengths : Nat) (m_said : Nat) (m_latest : Int32) (m_talked : Int32) (m_sum : Int32) (m_doneSet : Int32) (m_w : Int32) (m_more : Nat) (m_laidRow : Nat) (m_laid : Int32) (m_piece : Nat) (m_far : Nat) (m_steps : Nat) (m_ends : Nat) (m_hPlace : Nat) (m_hWhat : Nat) (m_hValue : Nat) (m_hTold : Nat) (m_hUntold : Nat) (m_sounds : Int32) (m_time : Int32) (m_ways : Nat) (m_goesOn : Nat) (m_boxMany : Nat) (m_boxLatest : Nat) (m_boxSum : Nat) (m_boxW : Nat) (m_boxDone : Nat) (m_boxSaid : Nat) (hx0 : x ≠ 0) : Met l yX11_fails wsX11_fails ({ frames := 0, cells := 0, slots := 0, locals := 0 }) (xPre D (tyL cB cI cJ cS cZ cO) [(o, .inr (11, [.ref m_tape, .ref m_text, .int m_taped, .int m_size, .int fk, .int fp, .int m_at, .int m_end, .int m_token, .int m_number, .long m_name, .ref m_words, .ref m_errands, .ref m_alikes, .ref m_law, .ref m_worth, .ref m_times, .ref m_eWord, .ref m_eAfter, .ref m_sound, .ref m_isLaw, .ref m_wName, .int m_bank, .int m_rb, .ref m_follow, .ref m_lengths, .ref m_said, .int m_latest, .int m_talked, .int m_sum, .int m_doneSet, .int m_w, .ref m_more, .ref m_laidRow, .int m_laid, .ref m_piece, .ref m_far, .ref m_steps, .ref m_ends, .ref m_hPlace, .ref m_hWhat, .ref m_hValue, .ref m_hTold, .ref m_hUntold, .int m_sounds, .int m_time, .ref m_ways, .ref m_goesOn, .ref m_boxMany, .ref m_boxLatest, .ref m_boxSum, .ref m_boxW, .ref m_boxDone, .ref m_boxSaid]))] sz [.ref o, .int x, .int y]) (xQv D (tyL cB cI cJ cS cZ cO) (va_A [(o, .inr (11, [.ref m_tape, .ref m_text, .int m_taped, .int m_size, .int fk, .int fp, .int m_at, .int m_end, .int m_token, .int m_number, .long m_name, .ref m_words, .ref m_errands, .ref m_alikes, .ref m_law, .ref m_worth, .ref m_times, .ref m_eWord, .ref m_eAfter, .ref m_sound, .ref m_isLaw, .ref m_wName, .int m_bank, .int m_rb, .ref m_follow, .ref m_lengths, .ref m_said, .int m_latest, .int m_talked, .int m_sum, .int m_doneSet, .int m_w, .ref m_more, .ref m_laidRow, .int m_laid, .ref m_piece, .ref m_far, .ref m_steps, .ref m_ends, .ref m_hPlace, .ref m_hWhat, .ref m_hValue, .ref m_hTold, .ref m_hUntold, .int m_sounds, .int m_time, .ref m_ways, .ref m_goesOn, .ref m_boxMany, .ref m_boxLatest, .ref m_boxSum, .ref m_boxW, .ref m_boxDone, .ref m_boxSaid]))] sz) (fun u : va_W => ∃ fk2 : Int32, ∃ fp2 : Int32, u = [(o, .inr (11, [.ref m_tape, .ref m_text, .int m_taped, .int m_size, .int fk2, .int fp2, .int m_at, .int m_end, .int m_token, .int m_number, .long m_name, .ref m_words, .ref m_errands, .ref m_alikes, .ref m_law, .ref m_worth, .ref m_times, .ref m_eWord, .ref m_eAfter, .ref m_sound, .ref m_isLaw, .ref m_wName, .int m_bank, .int m_rb, .ref m_follow, .ref m_lengths, .ref m_said, .int m_latest, .int m_talked, .int m_sum, .int m_doneSet, .int m_w, .ref m_more, .ref m_laidRow, .int m_laid, .ref m_piece, .ref m_far, .ref m_steps, .ref m_ends, .ref m_hPlace, .ref m_hWhat, .ref m_hValue, .ref m_hTold, .ref m_hUntold, .int m_sounds, .int m_time, .ref m_ways, .ref m_goesOn, .ref m_boxMany, .ref m_boxLatest, .ref m_boxSum, .ref m_boxW, .ref m_boxDone, .ref m_boxSaid]))] ∧ fk2 ≠ 0)) 0 0 (va_A [(o, .inr (11, [.ref m_tape, .ref m_text, .int m_taped, .int m_size, .int fk, .int fp, .int m_at, .int m_end, .int m_token, .int m_number, .long m_name, .ref m_words, .ref m_errands, .ref m_alikes, .ref m_law, .ref m_worth, .ref m_times, .ref m_eWord, .ref m_eAfter, .ref m_sound, .ref m_isLaw, .ref m_wName, .int m_bank, .int m_rb, .ref m_follow, .ref m_lengths, .ref m_said, .int m_latest, .int m_talked, .int m_sum, .int m_doneSet, .int m_w, .ref m_more, .ref m_laidRow, .int m_laid, .ref m_piece, .ref m_far, .ref m_steps, .ref m_ends, .ref m_hPlace, .ref m_hWhat, .ref m_hValue, .ref m_hTold, .ref m_hUntold, .int m_sounds, .int m_time, .ref m_ways, .ref m_goesOn, .ref m_boxMany, .ref m_boxLatest, .ref m_boxSum, .ref m_boxW, .ref m_boxDone, .ref m_boxSaid]))] sz) := by
  refine Met.ofW (cc := cX11_fails) (maxL := 3) (ret := none) (by decide) rfl ?_
  intro p e s m args below meth c s₁ B hml hv
  obtain ⟨rfl, hsz, hP, hK, hD0, hN⟩ := hv
  have hx := B.exec
  have hb := B.bytes
  have hr := B.returns
  have hts := atoms_spec (ws := wsX11_fails) B.pre
  have hown : s.vm.findClass RX11 = some m.cls := findClass_of_methodNamed B.named
  have hlocks := B.notSynchronized
  subst hsz
  have hD := hD0.self (sz := s.heap.size)
  generalize hAe : va_A [(o, .inr (11, [.ref m_tape, .ref m_text, .int m_taped, .int m_size, .int fk, .int fp, .int m_at, .int m_end, .int m_token, .int m_number, .long m_name, .ref m_words, .ref m_errands, .ref m_alikes, .ref m_law, .ref m_worth, .ref m_times, .ref m_eWord, .ref m_eAfter, .ref m_sound, .ref m_isLaw, .ref m_wName, .int m_bank, .int m_rb, .ref m_follow, .ref m_lengths, .ref m_said, .int m_latest, .int m_talked, .int m_sum, .int m_doneSet, .int m_w, .ref m_more, .ref m_laidRow, .int m_laid, .ref m_piece, .ref m_far, .ref m_steps, .ref m_ends, .ref m_hPlace, .ref m_hWhat, .ref m_hValue, .ref m_hTold, .ref m_hUntold, .int m_sounds, .int m_time, .ref m_ways, .ref m_goesOn, .ref m_boxMany, .ref m_boxLatest, .ref m_boxSum, .ref m_boxW, .ref m_boxDone, .ref m_boxSaid]))] s.heap.size = A at hD ⊢
  have hA : ∀ q : Nat, s.heap.size ≤ q → A q := fun q h => by rw [← hAe]; exact Or.inr h
  have hS : va_S A s.heap s.heap [] := va_S.rf
  have hP : va_P D vwCl [(o, .inr (11, [.ref m_tape, .ref m_text, .int m_taped, .int m_size, .int fk, .int fp, .int m_at, .int m_end, .int m_token, .int m_number, .long m_name, .ref m_words, .ref m_errands, .ref m_alikes, .ref m_law, .ref m_worth, .ref m_times, .ref m_eWord, .ref m_eAfter, .ref m_sound, .ref m_isLaw, .ref m_wName, .int m_bank, .int m_rb, .ref m_follow, .ref m_lengths, .ref m_said, .int m_latest, .int m_talked, .int m_sum, .int m_doneSet, .int m_w, .ref m_more, .ref m_laidRow, .int m_laid, .ref m_piece, .ref m_far, .ref m_steps, .ref m_ends, .ref m_hPlace, .ref m_hWhat, .ref m_hValue, .ref m_hTold, .ref m_hUntold, .int m_sounds, .int m_time, .ref m_ways, .ref m_goesOn, .ref m_boxMany, .ref m_boxLatest, .ref m_boxSum, .ref m_boxW, .ref m_boxDone, .ref m_boxSaid]))] s.heap := hP
  have hl := lv_entry ([.ref o, .int x, .int y]) (n := 3) (Nat.le_of_ble_eq_true rfl)
  rw [lg_entry_eq]
  generalize (lg_sl ([.ref o, .int x, .int y]) ++ List.replicate (3 - (lg_sl ([.ref o, .int x, .int y])).length) Slot.unset).toArray = ls at hl ⊢
  have hl : lv_has ls 3 [(0, .ref o), (1, .int x), (2, .int y)] := hl
  refine lv_aload_n hx hb dX11_fails_0 rfl (lv_at hl 0 rfl) ?_
  refine va_get (D := D) (ci := 11) (v := .int fk) (C := RX11) (T := TX11) (N := 54) hx hb hts (by decide +kernel) hown hK hP 0 rfl rfl 4 (by decide) (hts (.fieldLink RX11 138 "LastLetterModel" "faultKind" "I") (by decide +kernel)) (fun _ h9 => h9) rfl dX11_fails_1 ?_
  refine lv_if_le (tgt := 8) hx hb dX11_fails_4 (by decide) (fun c_1 => ?_) (fun c_1 => ?_)
  · refine lv_aload_n hx hb dX11_fails_8 rfl (lv_at hl 0 rfl) ?_
    refine lv_iload_n hx hb dX11_fails_9 rfl (lv_at hl 1 rfl) ?_
    refine va_put (D := D) (ci := 11) (v := .int x) (ty := .int) (C := RX11) (T := TX11) (N := 54) hx hb hts (by decide +kernel) tyX11 tyX11_ok nmX11 hown hK hP hD hS 0 rfl rfl 4 (by decide) (hts (.fieldLink RX11 138 "LastLetterModel" "faultKind" "I") (by decide +kernel)) (fun _ h9 => h9) rfl (by decide +kernel) rfl rfl (Nat.le_of_ble_eq_true rfl) dX11_fails_10 (fun H locs hP hD hS => ?_)
    have hP : va_P D vwCl [(o, .inr (11, [.ref m_tape, .ref m_text, .int m_taped, .int m_size, .int x, .int fp, .int m_at, .int m_end, .int m_token, .int m_number, .long m_name, .ref m_words, .ref m_errands, .ref m_alikes, .ref m_law, .ref m_worth, .ref m_times, .ref m_eWord, .ref m_eAfter, .ref m_sound, .ref m_isLaw, .ref m_wName, .int m_bank, .int m_rb, .ref m_follow, .ref m_lengths, .ref m_said, .int m_latest, .int m_talked, .int m_sum, .int m_doneSet, .int m_w, .ref m_more, .ref m_laidRow, .int m_laid, .ref m_piece, .ref m_far, .ref m_steps, .ref m_ends, .ref m_hPlace, .ref m_hWhat, .ref m_hValue, .ref m_hTold, .ref m_hUntold, .int m_sounds, .int m_time, .ref m_ways, .ref m_goesOn, .ref m_boxMany, .ref m_boxLatest, .ref m_boxSum, .ref m_boxW, .ref m_boxDone, .ref m_boxSaid]))] H := hP
    have hD : va_D A [(o, .inr (11, [.ref m_tape, .ref m_text, .int m_taped, .int m_size, .int x, .int fp, .int m_at, .int m_end, .int m_token, .int m_number, .long m_name, .ref m_words, .ref m_errands, .ref m_alikes, .ref m_law, .ref m_worth, .ref m_times, .ref m_eWord, .ref m_eAfter, .ref m_sound, .ref m_isLaw, .ref m_wName, .int m_bank, .int m_rb, .ref m_follow, .ref m_lengths, .ref m_said, .int m_latest, .int m_talked, .int m_sum, .int m_doneSet, .int m_w, .ref m_more, .ref m_laidRow, .int m_laid, .ref m_piece, .ref m_far, .ref m_steps, .ref m_ends, .ref m_hPlace, .ref m_hWhat, .ref m_hValue, .ref m_hTold, .ref m_hUntold, .int m_sounds, .int m_time, .ref m_ways, .ref m_goesOn, .ref m_boxMany, .ref m_boxLatest, .ref m_boxSum, .ref m_boxW, .ref m_boxDone, .ref m_boxSaid]))] := hD
    refine lv_aload_n hx hb dX11_fails_13 rfl (lv_at hl 0 rfl) ?_
    refine lv_iload_n hx hb dX11_fails_14 rfl (lv_at hl 2 rfl) ?_
    refine va_put (D := D) (ci := 11) (v := .int y) (ty := .int) (C := RX11) (T := TX11) (N := 54) hx hb hts (by decide +kernel) tyX11 tyX11_ok nmX11 hown hK hP hD hS 0 rfl rfl 5 (by decide) (hts (.fieldLink RX11 16 "LastLetterModel" "faultPlace" "I") (by decide +kernel)) (fun _ h9 => h9) rfl (by decide +kernel) rfl rfl (Nat.le_of_ble_eq_true rfl) dX11_fails_15 (fun H locs hP hD hS => ?_)
    have hP : va_P D vwCl [(o, .inr (11, [.ref m_tape, .ref m_text, .int m_taped, .int m_size, .int x, .int y, .int m_at, .int m_end, .int m_token, .int m_number, .long m_name, .ref m_words, .ref m_errands, .ref m_alikes, .ref m_law, .ref m_worth, .ref m_times, .ref m_eWord, .ref m_eAfter, .ref m_sound, .ref m_isLaw, .ref m_wName, .int m_bank, .int m_rb, .ref m_follow, .ref m_lengths, .ref m_said, .int m_latest, .int m_talked, .int m_sum, .int m_doneSet, .int m_w, .ref m_more, .ref m_laidRow, .int m_laid, .ref m_piece, .ref m_far, .ref m_steps, .ref m_ends, .ref m_hPlace, .ref m_hWhat, .ref m_hValue, .ref m_hTold, .ref m_hUntold, .int m_sounds, .int m_time, .ref m_ways, .ref m_goesOn, .ref m_boxMany, .ref m_boxLatest, .ref m_boxSum, .ref m_boxW, .ref m_boxDone, .ref m_boxSaid]))] H := hP
    have hD : va_D A [(o, .inr (11, [.ref m_tape, .ref m_text, .int m_taped, .int m_size, .int x, .int y, .int m_at, .int m_end, .int m_token, .int m_number, .long m_name, .ref m_words, .ref m_errands, .ref m_alikes, .ref m_law, .ref m_worth, .ref m_times, .ref m_eWord, .ref m_eAfter, .ref m_sound, .ref m_isLaw, .ref m_wName, .int m_bank, .int m_rb, .ref m_follow, .ref m_lengths, .ref m_said, .int m_latest, .int m_talked, .int m_sum, .int m_doneSet, .int m_w, .ref m_more, .ref m_laidRow, .int m_laid, .ref m_piece, .ref m_far, .ref m_steps, .ref m_ends, .ref m_hPlace, .ref m_hWhat, .ref m_hValue, .ref m_hTold, .ref m_hUntold, .int m_sounds, .int m_time, .ref m_ways, .ref m_goesOn, .ref m_boxMany, .ref m_boxLatest, .ref m_boxSum, .ref m_boxW, .ref m_boxDone, .ref m_boxSaid]))] := hD
    have hP9 := hP.sub (ws' := [(o, .inr (11, [.ref m_tape, .ref m_text, .int m_taped, .int m_size, .int x, .int y, .int m_at, .int m_end, .int m_token, .int m_number, .long m_name, .ref m_words, .ref m_errands, .ref m_alikes, .ref m_law, .ref m_worth, .ref m_times, .ref m_eWord, .ref m_eAfter, .ref m_sound, .ref m_isLaw, .ref m_wName, .int m_bank, .int m_rb, .ref m_follow, .ref m_lengths, .ref m_said, .int m_latest, .int m_talked, .int m_sum, .int m_doneSet, .int m_w, .ref m_more, .ref m_laidRow, .int m_laid, .ref m_piece, .ref m_far, .ref m_steps, .ref m_ends, .ref m_hPlace, .ref m_hWhat, .ref m_hValue, .ref m_hTold, .ref m_hUntold, .int m_sounds, .int m_time, .ref m_ways, .ref m_goesOn, .ref m_boxMany, .ref m_boxLatest, .ref m_boxSum, .ref m_boxW, .ref m_boxDone, .ref m_boxSaid]))]) [0] rfl
    have hD9 := hD.sub (ws' := [(o, .inr (11, [.ref m_tape, .ref m_text, .int m_taped, .int m_size, .int x, .int y, .int m_at, .int m_end, .int m_token, .int m_number, .long m_name, .ref m_words, .ref m_errands, .ref m_alikes, .ref m_law, .ref m_worth, .ref m_times, .ref m_eWord, .ref m_eAfter, .ref m_sound, .ref m_isLaw, .ref m_wName, .int m_bank, .int m_rb, .ref m_follow, .ref m_lengths, .ref m_said, .int m_latest, .int m_talked, .int m_sum, .int m_doneSet, .int m_w, .ref m_more, .ref m_laidRow, .int m_laid, .ref m_piece, .ref m_far, .ref m_steps, .ref m_ends, .ref m_hPlace, .ref m_hWhat, .ref m_hValue, .ref m_hTold, .ref m_hUntold, .int m_sounds, .int m_time, .ref m_ways, .ref m_goesOn, .ref m_boxMany, .ref m_boxLatest, .ref m_boxSum, .ref m_boxW, .ref m_boxDone, .ref m_boxSaid]))]) [0] (by decide) rfl
    refine W.widen (k := 0) (n := 0) (Nat.le_of_ble_eq_true rfl) (Nat.le_of_ble_eq_true rfl) ?_
    exact W.vret hx hb hr (fun tz htz hWz => ⟨⟨[(o, .inr (11, [.ref m_tape, .ref m_text, .int m_taped, .int m_size, .int x, .int y, .int m_at, .int m_end, .int m_token, .int m_number, .long m_name, .ref m_words, .ref m_errands, .ref m_alikes, .ref m_law, .ref m_worth, .ref m_times, .ref m_eWord, .ref m_eAfter, .ref m_sound, .ref m_isLaw, .ref m_wName, .int m_bank, .int m_rb, .ref m_follow, .ref m_lengths, .ref m_said, .int m_latest, .int m_talked, .int m_sum, .int m_doneSet, .int m_w, .ref m_more, .ref m_laidRow, .int m_laid, .ref m_piece, .ref m_far, .ref m_steps, .ref m_ends, .ref m_hPlace, .ref m_hWhat, .ref m_hValue, .ref m_hTold, .ref m_hUntold, .int m_sounds, .int m_time, .ref m_ways, .ref m_goesOn, .ref m_boxMany, .ref m_boxLatest, .ref m_boxSum, .ref m_boxW, .ref m_boxDone, .ref m_boxSaid]))], rfl, ⟨x, y, rfl, hx0⟩, by rw [htz]; exact hP9, va_K.moved hWz.alike hK, hD9⟩, hS.F htz⟩) hS.2.2 dX11_fails_18
  · have hP9 := hP.sub (ws' := [(o, .inr (11, [.ref m_tape, .ref m_text, .int m_taped, .int m_size, .int fk, .int fp, .int m_at, .int m_end, .int m_token, .int m_number, .long m_name, .ref m_words, .ref m_errands, .ref m_alikes, .ref m_law, .ref m_worth, .ref m_times, .ref m_eWord, .ref m_eAfter, .ref m_sound, .ref m_isLaw, .ref m_wName, .int m_bank, .int m_rb, .ref m_follow, .ref m_lengths, .ref m_said, .int m_latest, .int m_talked, .int m_sum, .int m_doneSet, .int m_w, .ref m_more, .ref m_laidRow, .int m_laid, .ref m_piece, .ref m_far, .ref m_steps, .ref m_ends, .ref m_hPlace, .ref m_hWhat, .ref m_hValue, .ref m_hTold, .ref m_hUntold, .int m_sounds, .int m_time, .ref m_ways, .ref m_goesOn, .ref m_boxMany, .ref m_boxLatest, .ref m_boxSum, .ref m_boxW, .ref m_boxDone, .ref m_boxSaid]))]) [0] rfl
    have hD9 := hD.sub (ws' := [(o, .inr (11, [.ref m_tape, .ref m_text, .int m_taped, .int m_size, .int fk, .int fp, .int m_at, .int m_end, .int m_token, .int m_number, .long m_name, .ref m_words, .ref m_errands, .ref m_alikes, .ref m_law, .ref m_worth, .ref m_times, .ref m_eWord, .ref m_eAfter, .ref m_sound, .ref m_isLaw, .ref m_wName, .int m_bank, .int m_rb, .ref m_follow, .ref m_lengths, .ref m_said, .int m_latest, .int m_talked, .int m_sum, .int m_doneSet, .int m_w, .ref m_more, .ref m_laidRow, .int m_laid, .ref m_piece, .ref m_far, .ref m_steps, .ref m_ends, .ref m_hPlace, .ref m_hWhat, .ref m_hValue, .ref m_hTold, .ref m_hUntold, .int m_sounds, .int m_time, .ref m_ways, .ref m_goesOn, .ref m_boxMany, .ref m_boxLatest, .ref m_boxSum, .ref m_boxW, .ref m_boxDone, .ref m_boxSaid]))]) [0] (by decide) rfl
    refine W.widen (k := 0) (n := 0) (Nat.le_of_ble_eq_true rfl) (Nat.le_of_ble_eq_true rfl) ?_
    exact W.vret hx hb hr (fun tz htz hWz => ⟨⟨[(o, .inr (11, [.ref m_tape, .ref m_text, .int m_taped, .int m_size, .int fk, .int fp, .int m_at, .int m_end, .int m_token, .int m_number, .long m_name, .ref m_words, .ref m_errands, .ref m_alikes, .ref m_law, .ref m_worth, .ref m_times, .ref m_eWord, .ref m_eAfter, .ref m_sound, .ref m_isLaw, .ref m_wName, .int m_bank, .int m_rb, .ref m_follow, .ref m_lengths, .ref m_said, .int m_latest, .int m_talked, .int m_sum, .int m_doneSet, .int m_w, .ref m_more, .ref m_laidRow, .int m_laid, .ref m_piece, .ref m_far, .ref m_steps, .ref m_ends, .ref m_hPlace, .ref m_hWhat, .ref m_hValue, .ref m_hTold, .ref m_hUntold, .int m_sounds, .int m_time, .ref m_ways, .ref m_goesOn, .ref m_boxMany, .ref m_boxLatest, .ref m_boxSum, .ref m_boxW, .ref m_boxDone, .ref m_boxSaid]))], rfl, ⟨fk, fp, rfl, (fun h => c_1 (by rw [h]; decide))⟩, by rw [htz]; exact hP9, va_K.moved hWz.alike hK, hD9⟩, hS.F htz⟩) hS.2.2 dX11_fails_7

set_option maxHeartbeats 4000000 in
set_option maxRecDepth 100000 in
theorem c_X11_isGood (l : Launch) (D : va_G) (cB cI cJ cS cZ cO : ClassId) (sz : Nat) (o : Nat) (m_tape : Nat) (m_text : Nat) (m_taped : Int32) (m_size : Int32) (fk : Int32) (fp : Int32) (m_at : Int32) (m_end : Int32) (m_token : Int32) (m_number : Int32) (m_name : Int64) (m_words : Nat) (m_errands : Nat) (m_alikes : Nat) (m_law : Nat) (m_worth : Nat) (m_times : Nat) (m_eWord : Nat) (m_eAfter : Nat) (m_sound : Nat) (m_isLaw : Nat) (m_wName : Nat) (m_bank : Int32) (m_rb : Int32) (m_follow : Nat) (m_lengths : Nat) (m_said : Nat) (m_latest : Int32) (m_talked : Int32) (m_sum : Int32) (m_doneSet : Int32) (m_w : Int32) (m_more : Nat) (m_laidRow : Nat) (m_laid : Int32) (m_piece : Nat) (m_far : Nat) (m_steps : Nat) (m_ends : Nat) (m_hPlace : Nat) (m_hWhat : Nat) (m_hValue : Nat) (m_hTold : Nat) (m_hUntold : Nat) (m_sounds : Int32) (m_time : Int32) (m_ways : Nat) (m_goesOn : Nat) (m_boxMany : Nat) (m_boxLatest : Nat) (m_boxSum : Nat) (m_boxW : Nat) (m_boxDone : Nat) (m_boxSaid : Nat) : Met l yX11_isGood wsX11_isGood ({ frames := 0, cells := 0, slots := 0, locals := 0 }) (xPre D (tyL cB cI cJ cS cZ cO) [(o, .inr (11, [.ref m_tape, .ref m_text, .int m_taped, .int m_size, .int fk, .int fp, .int m_at, .int m_end, .int m_token, .int m_number, .long m_name, .ref m_words, .ref m_errands, .ref m_alikes, .ref m_law, .ref m_worth, .ref m_times, .ref m_eWord, .ref m_eAfter, .ref m_sound, .ref m_isLaw, .ref m_wName, .int m_bank, .int m_rb, .ref m_follow, .ref m_lengths, .ref m_said, .int m_latest, .int m_talked, .int m_sum, .int m_doneSet, .int m_w, .ref m_more, .ref m_laidRow, .int m_laid, .ref m_piece, .ref m_far, .ref m_steps, .ref m_ends, .ref m_hPlace, .ref m_hWhat, .ref m_hValue, .ref m_hTold, .ref m_hUntold, .int m_sounds, .int m_time, .ref m_ways, .ref m_goesOn, .ref m_boxMany, .ref m_boxLatest, .ref m_boxSum, .ref m_boxW, .ref m_boxDone, .ref m_boxSaid]))] sz [.ref o]) (xQi D (tyL cB cI cJ cS cZ cO) (va_A [(o, .inr (11, [.ref m_tape, .ref m_text, .int m_taped, .int m_size, .int fk, .int fp, .int m_at, .int m_end, .int m_token, .int m_number, .long m_name, .ref m_words, .ref m_errands, .ref m_alikes, .ref m_law, .ref m_worth, .ref m_times, .ref m_eWord, .ref m_eAfter, .ref m_sound, .ref m_isLaw, .ref m_wName, .int m_bank, .int m_rb, .ref m_follow, .ref m_lengths, .ref m_said, .int m_latest, .int m_talked, .int m_sum, .int m_doneSet, .int m_w, .ref m_more, .ref m_laidRow, .int m_laid, .ref m_piece, .ref m_far, .ref m_steps, .ref m_ends, .ref m_hPlace, .ref m_hWhat, .ref m_hValue, .ref m_hTold, .ref m_hUntold, .int m_sounds, .int m_time, .ref m_ways, .ref m_goesOn, .ref m_boxMany, .ref m_boxLatest, .ref m_boxSum, .ref m_boxW, .ref m_boxDone, .ref m_boxSaid]))] sz) (fun (r : Int32) (u : va_W) => u = [(o, .inr (11, [.ref m_tape, .ref m_text, .int m_taped, .int m_size, .int fk, .int fp, .int m_at, .int m_end, .int m_token, .int m_number, .long m_name, .ref m_words, .ref m_errands, .ref m_alikes, .ref m_law, .ref m_worth, .ref m_times, .ref m_eWord, .ref m_eAfter, .ref m_sound, .ref m_isLaw, .ref m_wName, .int m_bank, .int m_rb, .ref m_follow, .ref m_lengths, .ref m_said, .int m_latest, .int m_talked, .int m_sum, .int m_doneSet, .int m_w, .ref m_more, .ref m_laidRow, .int m_laid, .ref m_piece, .ref m_far, .ref m_steps, .ref m_ends, .ref m_hPlace, .ref m_hWhat, .ref m_hValue, .ref m_hTold, .ref m_hUntold, .int m_sounds, .int m_time, .ref m_ways, .ref m_goesOn, .ref m_boxMany, .ref m_boxLatest, .ref m_boxSum, .ref m_boxW, .ref m_boxDone, .ref m_boxSaid]))] ∧ (r = 0 ∨ r = 1) ∧ ((r = 1 ∧ fk = 0) ∨ (r = 0 ∧ fk ≠ 0)))) 0 0 (va_A [(o, .inr (11, [.ref m_tape, .ref m_text, .int m_taped, .int m_size, .int fk, .int fp, .int m_at, .int m_end, .int m_token, .int m_number, .long m_name, .ref m_words, .ref m_errands, .ref m_alikes, .ref m_law, .ref m_worth, .ref m_times, .ref m_eWord, .ref m_eAfter, .ref m_sound, .ref m_isLaw, .ref m_wName, .int m_bank, .int m_rb, .ref m_follow, .ref m_lengths, .ref m_said, .int m_latest, .int m_talked, .int m_sum, .int m_doneSet, .int m_w, .ref m_more, .ref m_laidRow, .int m_laid, .ref m_piece, .ref m_far, .ref m_steps, .ref m_ends, .ref m_hPlace, .ref m_hWhat, .ref m_hValue, .ref m_hTold, .ref m_hUntold, .int m_sounds, .int m_time, .ref m_ways, .ref m_goesOn, .ref m_boxMany, .ref m_boxLatest, .ref m_boxSum, .ref m_boxW, .ref m_boxDone, .ref m_boxSaid]))] sz) := by
  refine Met.ofW (cc := cX11_isGood) (maxL := 1) (ret := (some .boolean)) (by decide) rfl ?_
  intro p e s m args below meth c s₁ B hml hv
  obtain ⟨rfl, hsz, hP, hK, hD0, hN⟩ := hv
  have hx := B.exec
  have hb := B.bytes
  have hr := B.returns
  have hts := atoms_spec (ws := wsX11_isGood) B.pre
  have hown : s.vm.findClass RX11 = some m.cls := findClass_of_methodNamed B.named
  have hlocks := B.notSynchronized
  subst hsz
  have hD := hD0.self (sz := s.heap.size)
  generalize hAe : va_A [(o, .inr (11, [.ref m_tape, .ref m_text, .int m_taped, .int m_size, .int fk, .int fp, .int m_at, .int m_end, .int m_token, .int m_number, .long m_name, .ref m_words, .ref m_errands, .ref m_alikes, .ref m_law, .ref m_worth, .ref m_times, .ref m_eWord, .ref m_eAfter, .ref m_sound, .ref m_isLaw, .ref m_wName, .int m_bank, .int m_rb, .ref m_follow, .ref m_lengths, .ref m_said, .int m_latest, .int m_talked, .int m_sum, .int m_doneSet, .int m_w, .ref m_more, .ref m_laidRow, .int m_laid, .ref m_piece, .ref m_far, .ref m_steps, .ref m_ends, .ref m_hPlace, .ref m_hWhat, .ref m_hValue, .ref m_hTold, .ref m_hUntold, .int m_sounds, .int m_time, .ref m_ways, .ref m_goesOn, .ref m_boxMany, .ref m_boxLatest, .ref m_boxSum, .ref m_boxW, .ref m_boxDone, .ref m_boxSaid]))] s.heap.size = A at hD ⊢
  have hA : ∀ q : Nat, s.heap.size ≤ q → A q := fun q h => by rw [← hAe]; exact Or.inr h
  have hS : va_S A s.heap s.heap [] := va_S.rf
  have hP : va_P D vwCl [(o, .inr (11, [.ref m_tape, .ref m_text, .int m_taped, .int m_size, .int fk, .int fp, .int m_at, .int m_end, .int m_token, .int m_number, .long m_name, .ref m_words, .ref m_errands, .ref m_alikes, .ref m_law, .ref m_worth, .ref m_times, .ref m_eWord, .ref m_eAfter, .ref m_sound, .ref m_isLaw, .ref m_wName, .int m_bank, .int m_rb, .ref m_follow, .ref m_lengths, .ref m_said, .int m_latest, .int m_talked, .int m_sum, .int m_doneSet, .int m_w, .ref m_more, .ref m_laidRow, .int m_laid, .ref m_piece, .ref m_far, .ref m_steps, .ref m_ends, .ref m_hPlace, .ref m_hWhat, .ref m_hValue, .ref m_hTold, .ref m_hUntold, .int m_sounds, .int m_time, .ref m_ways, .ref m_goesOn, .ref m_boxMany, .ref m_boxLatest, .ref m_boxSum, .ref m_boxW, .ref m_boxDone, .ref m_boxSaid]))] s.heap := hP
  have hl := lv_entry ([.ref o]) (n := 1) (Nat.le_of_ble_eq_true rfl)
  rw [lg_entry_eq]
  generalize (lg_sl ([.ref o]) ++ List.replicate (1 - (lg_sl ([.ref o])).length) Slot.unset).toArray = ls at hl ⊢
  have hl : lv_has ls 1 [(0, .ref o)] := hl
  refine lv_aload_n hx hb dX11_isGood_0 rfl (lv_at hl 0 rfl) ?_
  refine va_get (D := D) (ci := 11) (v := .int fk) (C := RX11) (T := TX11) (N := 54) hx hb hts (by decide +kernel) hown hK hP 0 rfl rfl 4 (by decide) (hts (.fieldLink RX11 138 "LastLetterModel" "faultKind" "I") (by decide +kernel)) (fun _ h9 => h9) rfl dX11_isGood_1 ?_
  refine lv_if_ne (tgt := 11) hx hb dX11_isGood_4 (by decide) (fun c_1 => ?_) (fun c_1 => ?_)
  · refine lv_iconst (v := 0) hx hb dX11_isGood_11 (by decide) ?_
    have hP9 := hP.sub (ws' := [(o, .inr (11, [.ref m_tape, .ref m_text, .int m_taped, .int m_size, .int fk, .int fp, .int m_at, .int m_end, .int m_token, .int m_number, .long m_name, .ref m_words, .ref m_errands, .ref m_alikes, .ref m_law, .ref m_worth, .ref m_times, .ref m_eWord, .ref m_eAfter, .ref m_sound, .ref m_isLaw, .ref m_wName, .int m_bank, .int m_rb, .ref m_follow, .ref m_lengths, .ref m_said, .int m_latest, .int m_talked, .int m_sum, .int m_doneSet, .int m_w, .ref m_more, .ref m_laidRow, .int m_laid, .ref m_piece, .ref m_far, .ref m_steps, .ref m_ends, .ref m_hPlace, .ref m_hWhat, .ref m_hValue, .ref m_hTold, .ref m_hUntold, .int m_sounds, .int m_time, .ref m_ways, .ref m_goesOn, .ref m_boxMany, .ref m_boxLatest, .ref m_boxSum, .ref m_boxW, .ref m_boxDone, .ref m_boxSaid]))]) [0] rfl
    have hD9 := hD.sub (ws' := [(o, .inr (11, [.ref m_tape, .ref m_text, .int m_taped, .int m_size, .int fk, .int fp, .int m_at, .int m_end, .int m_token, .int m_number, .long m_name, .ref m_words, .ref m_errands, .ref m_alikes, .ref m_law, .ref m_worth, .ref m_times, .ref m_eWord, .ref m_eAfter, .ref m_sound, .ref m_isLaw, .ref m_wName, .int m_bank, .int m_rb, .ref m_follow, .ref m_lengths, .ref m_said, .int m_latest, .int m_talked, .int m_sum, .int m_doneSet, .int m_w, .ref m_more, .ref m_laidRow, .int m_laid, .ref m_piece, .ref m_far, .ref m_steps, .ref m_ends, .ref m_hPlace, .ref m_hWhat, .ref m_hValue, .ref m_hTold, .ref m_hUntold, .int m_sounds, .int m_time, .ref m_ways, .ref m_goesOn, .ref m_boxMany, .ref m_boxLatest, .ref m_boxSum, .ref m_boxW, .ref m_boxDone, .ref m_boxSaid]))]) [0] (by decide) rfl
    refine W.widen (k := 0) (n := 0) (Nat.le_of_ble_eq_true rfl) (Nat.le_of_ble_eq_true rfl) ?_
    exact W.zret (v := 0) hx hb hr (by decide) (fun tz htz hWz => ⟨⟨0, [(o, .inr (11, [.ref m_tape, .ref m_text, .int m_taped, .int m_size, .int fk, .int fp, .int m_at, .int m_end, .int m_token, .int m_number, .long m_name, .ref m_words, .ref m_errands, .ref m_alikes, .ref m_law, .ref m_worth, .ref m_times, .ref m_eWord, .ref m_eAfter, .ref m_sound, .ref m_isLaw, .ref m_wName, .int m_bank, .int m_rb, .ref m_follow, .ref m_lengths, .ref m_said, .int m_latest, .int m_talked, .int m_sum, .int m_doneSet, .int m_w, .ref m_more, .ref m_laidRow, .int m_laid, .ref m_piece, .ref m_far, .ref m_steps, .ref m_ends, .ref m_hPlace, .ref m_hWhat, .ref m_hValue, .ref m_hTold, .ref m_hUntold, .int m_sounds, .int m_time, .ref m_ways, .ref m_goesOn, .ref m_boxMany, .ref m_boxLatest, .ref m_boxSum, .ref m_boxW, .ref m_boxDone, .ref m_boxSaid]))], rfl, ⟨rfl, (Or.inl rfl), (Or.inr ⟨rfl, c_1⟩)⟩, by rw [htz]; exact hP9, va_K.moved hWz.alike hK, hD9⟩, hS.F htz⟩) hS.2.2 dX11_isGood_12
  · refine lv_iconst (v := 1) hx hb dX11_isGood_7 (by decide) ?_
    refine lv_goto (tgt := 12) hx hb dX11_isGood_8 (by decide) ?_
    have hP9 := hP.sub (ws' := [(o, .inr (11, [.ref m_tape, .ref m_text, .int m_taped, .int m_size, .int fk, .int fp, .int m_at, .int m_end, .int m_token, .int m_number, .long m_name, .ref m_words, .ref m_errands, .ref m_alikes, .ref m_law, .ref m_worth, .ref m_times, .ref m_eWord, .ref m_eAfter, .ref m_sound, .ref m_isLaw, .ref m_wName, .int m_bank, .int m_rb, .ref m_follow, .ref m_lengths, .ref m_said, .int m_latest, .int m_talked, .int m_sum, .int m_doneSet, .int m_w, .ref m_more, .ref m_laidRow, .int m_laid, .ref m_piece, .ref m_far, .ref m_steps, .ref m_ends, .ref m_hPlace, .ref m_hWhat, .ref m_hValue, .ref m_hTold, .ref m_hUntold, .int m_sounds, .int m_time, .ref m_ways, .ref m_goesOn, .ref m_boxMany, .ref m_boxLatest, .ref m_boxSum, .ref m_boxW, .ref m_boxDone, .ref m_boxSaid]))]) [0] rfl
    have hD9 := hD.sub (ws' := [(o, .inr (11, [.ref m_tape, .ref m_text, .int m_taped, .int m_size, .int fk, .int fp, .int m_at, .int m_end, .int m_token, .int m_number, .long m_name, .ref m_words, .ref m_errands, .ref m_alikes, .ref m_law, .ref m_worth, .ref m_times, .ref m_eWord, .ref m_eAfter, .ref m_sound, .ref m_isLaw, .ref m_wName, .int m_bank, .int m_rb, .ref m_follow, .ref m_lengths, .ref m_said, .int m_latest, .int m_talked, .int m_sum, .int m_doneSet, .int m_w, .ref m_more, .ref m_laidRow, .int m_laid, .ref m_piece, .ref m_far, .ref m_steps, .ref m_ends, .ref m_hPlace, .ref m_hWhat, .ref m_hValue, .ref m_hTold, .ref m_hUntold, .int m_sounds, .int m_time, .ref m_ways, .ref m_goesOn, .ref m_boxMany, .ref m_boxLatest, .ref m_boxSum, .ref m_boxW, .ref m_boxDone, .ref m_boxSaid]))]) [0] (by decide) rfl
    refine W.widen (k := 0) (n := 0) (Nat.le_of_ble_eq_true rfl) (Nat.le_of_ble_eq_true rfl) ?_
    exact W.zret (v := 1) hx hb hr (by decide) (fun tz htz hWz => ⟨⟨1, [(o, .inr (11, [.ref m_tape, .ref m_text, .int m_taped, .int m_size, .int fk, .int fp, .int m_at, .int m_end, .int m_token, .int m_number, .long m_name, .ref m_words, .ref m_errands, .ref m_alikes, .ref m_law, .ref m_worth, .ref m_times, .ref m_eWord, .ref m_eAfter, .ref m_sound, .ref m_isLaw, .ref m_wName, .int m_bank, .int m_rb, .ref m_follow, .ref m_lengths, .ref m_said, .int m_latest, .int m_talked, .int m_sum, .int m_doneSet, .int m_w, .ref m_more, .ref m_laidRow, .int m_laid, .ref m_piece, .ref m_far, .ref m_steps, .ref m_ends, .ref m_hPlace, .ref m_hWhat, .ref m_hValue, .ref m_hTold, .ref m_hUntold, .int m_sounds, .int m_time, .ref m_ways, .ref m_goesOn, .ref m_boxMany, .ref m_boxLatest, .ref m_boxSum, .ref m_boxW, .ref m_boxDone, .ref m_boxSaid]))], rfl, ⟨rfl, (Or.inr rfl), (Or.inl ⟨rfl, c_1⟩)⟩, by rw [htz]; exact hP9, va_K.moved hWz.alike hK, hD9⟩, hS.F htz⟩) hS.2.2 dX11_isGood_12

set_option maxHeartbeats 4000000 in
set_option maxRecDepth 100000 in
theorem c_X11_misplaced (l : Launch) (D : va_G) (cB cI cJ cS cZ cO : ClassId) (sz : Nat) (o : Nat) (m_tape : Nat) (m_text : Nat) (m_taped : Int32) (m_size : Int32) (fk : Int32) (fp : Int32) (m_at : Int32) (m_end : Int32) (m_token : Int32) (m_number : Int32) (m_name : Int64) (m_words : Nat) (m_errands : Nat) (m_alikes : Nat) (m_law : Nat) (m_worth : Nat) (m_times : Nat) (m_eWord : Nat) (m_eAfter : Nat) (m_sound : Nat) (m_isLaw : Nat) (m_wName : Nat) (m_bank : Int32) (m_rb : Int32) (m_follow : Nat) (m_lengths : Nat) (m_said : Nat) (m_latest : Int32) (m_talked : Int32) (m_sum : Int32) (m_doneSet : Int32) (m_w : Int32) (m_more : Nat) (m_laidRow : Nat) (m_laid : Int32) (m_piece : Nat) (m_far : Nat) (m_steps : Nat) (m_ends : Nat) (m_hPlace : Nat) (m_hWhat : Nat) (m_hValue : Nat) (m_hTold : Nat) (m_hUntold : Nat) (m_sounds : Int32) (m_time : Int32) (m_ways : Nat) (m_goesOn : Nat) (m_boxMany : Nat) (m_boxLatest : Nat) (m_boxSum : Nat) (m_boxW : Nat) (m_boxDone : Nat) (m_boxSaid : Nat) : Met l yX11_misplaced wsX11_misplaced ({ frames := 1, cells := 0, slots := 0, locals := 22 }) (xPre D (tyL cB cI cJ cS cZ cO) [(o, .inr (11, [.ref m_tape, .ref m_text, .int m_taped, .int m_size, .int fk, .int fp, .int m_at, .int m_end, .int m_token, .int m_number, .long m_name, .ref m_words, .ref m_errands, .ref m_alikes, .ref m_law, .ref m_worth, .ref m_times, .ref m_eWord, .ref m_eAfter, .ref m_sound, .ref m_isLaw, .ref m_wName, .int m_bank, .int m_rb, .ref m_follow, .ref m_lengths, .ref m_said, .int m_latest, .int m_talked, .int m_sum, .int m_doneSet, .int m_w, .ref m_more, .ref m_laidRow, .int m_laid, .ref m_piece, .ref m_far, .ref m_steps, .ref m_ends, .ref m_hPlace, .ref m_hWhat, .ref m_hValue, .ref m_hTold, .ref m_hUntold, .int m_sounds, .int m_time, .ref m_ways, .ref m_goesOn, .ref m_boxMany, .ref m_boxLatest, .ref m_boxSum, .ref m_boxW, .ref m_boxDone, .ref m_boxSaid]))] sz [.ref o]) (xQv D (tyL cB cI cJ cS cZ cO) (va_A [(o, .inr (11, [.ref m_tape, .ref m_text, .int m_taped, .int m_size, .int fk, .int fp, .int m_at, .int m_end, .int m_token, .int m_number, .long m_name, .ref m_words, .ref m_errands, .ref m_alikes, .ref m_law, .ref m_worth, .ref m_times, .ref m_eWord, .ref m_eAfter, .ref m_sound, .ref m_isLaw, .ref m_wName, .int m_bank, .int m_rb, .ref m_follow, .ref m_lengths, .ref m_said, .int m_latest, .int m_talked, .int m_sum, .int m_doneSet, .int m_w, .ref m_more, .ref m_laidRow, .int m_laid, .ref m_piece, .ref m_far, .ref m_steps, .ref m_ends, .ref m_hPlace, .ref m_hWhat, .ref m_hValue, .ref m_hTold, .ref m_hUntold, .int m_sounds, .int m_time, .ref m_ways, .ref m_goesOn, .ref m_boxMany, .ref m_boxLatest, .ref m_boxSum, .ref m_boxW, .ref m_boxDone, .ref m_boxSaid]))] sz) (fun u : va_W => ∃ fk2 : Int32, ∃ fp2 : Int32, u = [(o, .inr (11, [.ref m_tape, .ref m_text, .int m_taped, .int m_size, .int fk2, .int fp2, .int m_at, .int m_end, .int m_token, .int m_number, .long m_name, .ref m_words, .ref m_errands, .ref m_alikes, .ref m_law, .ref m_worth, .ref m_times, .ref m_eWord, .ref m_eAfter, .ref m_sound, .ref m_isLaw, .ref m_wName, .int m_bank, .int m_rb, .ref m_follow, .ref m_lengths, .ref m_said, .int m_latest, .int m_talked, .int m_sum, .int m_doneSet, .int m_w, .ref m_more, .ref m_laidRow, .int m_laid, .ref m_piece, .ref m_far, .ref m_steps, .ref m_ends, .ref m_hPlace, .ref m_hWhat, .ref m_hValue, .ref m_hTold, .ref m_hUntold, .int m_sounds, .int m_time, .ref m_ways, .ref m_goesOn, .ref m_boxMany, .ref m_boxLatest, .ref m_boxSum, .ref m_boxW, .ref m_boxDone, .ref m_boxSaid]))] ∧ fk2 ≠ 0)) 0 0 (va_A [(o, .inr (11, [.ref m_tape, .ref m_text, .int m_taped, .int m_size, .int fk, .int fp, .int m_at, .int m_end, .int m_token, .int m_number, .long m_name, .ref m_words, .ref m_errands, .ref m_alikes, .ref m_law, .ref m_worth, .ref m_times, .ref m_eWord, .ref m_eAfter, .ref m_sound, .ref m_isLaw, .ref m_wName, .int m_bank, .int m_rb, .ref m_follow, .ref m_lengths, .ref m_said, .int m_latest, .int m_talked, .int m_sum, .int m_doneSet, .int m_w, .ref m_more, .ref m_laidRow, .int m_laid, .ref m_piece, .ref m_far, .ref m_steps, .ref m_ends, .ref m_hPlace, .ref m_hWhat, .ref m_hValue, .ref m_hTold, .ref m_hUntold, .int m_sounds, .int m_time, .ref m_ways, .ref m_goesOn, .ref m_boxMany, .ref m_boxLatest, .ref m_boxSum, .ref m_boxW, .ref m_boxDone, .ref m_boxSaid]))] sz) := by
  refine Met.ofW (cc := cX11_misplaced) (maxL := 1) (ret := none) (by decide) rfl ?_
  intro p e s m args below meth c s₁ B hml hv
  obtain ⟨rfl, hsz, hP, hK, hD0, hN⟩ := hv
  have hx := B.exec
  have hb := B.bytes
  have hr := B.returns
  have hts := atoms_spec (ws := wsX11_misplaced) B.pre
  have hown : s.vm.findClass RX11 = some m.cls := findClass_of_methodNamed B.named
  have hlocks := B.notSynchronized
  subst hsz
  have hD := hD0.self (sz := s.heap.size)
  generalize hAe : va_A [(o, .inr (11, [.ref m_tape, .ref m_text, .int m_taped, .int m_size, .int fk, .int fp, .int m_at, .int m_end, .int m_token, .int m_number, .long m_name, .ref m_words, .ref m_errands, .ref m_alikes, .ref m_law, .ref m_worth, .ref m_times, .ref m_eWord, .ref m_eAfter, .ref m_sound, .ref m_isLaw, .ref m_wName, .int m_bank, .int m_rb, .ref m_follow, .ref m_lengths, .ref m_said, .int m_latest, .int m_talked, .int m_sum, .int m_doneSet, .int m_w, .ref m_more, .ref m_laidRow, .int m_laid, .ref m_piece, .ref m_far, .ref m_steps, .ref m_ends, .ref m_hPlace, .ref m_hWhat, .ref m_hValue, .ref m_hTold, .ref m_hUntold, .int m_sounds, .int m_time, .ref m_ways, .ref m_goesOn, .ref m_boxMany, .ref m_boxLatest, .ref m_boxSum, .ref m_boxW, .ref m_boxDone, .ref m_boxSaid]))] s.heap.size = A at hD ⊢
  have hA : ∀ q : Nat, s.heap.size ≤ q → A q := fun q h => by rw [← hAe]; exact Or.inr h
  have hS : va_S A s.heap s.heap [] := va_S.rf
  have hP : va_P D vwCl [(o, .inr (11, [.ref m_tape, .ref m_text, .int m_taped, .int m_size, .int fk, .int fp, .int m_at, .int m_end, .int m_token, .int m_number, .long m_name, .ref m_words, .ref m_errands, .ref m_alikes, .ref m_law, .ref m_worth, .ref m_times, .ref m_eWord, .ref m_eAfter, .ref m_sound, .ref m_isLaw, .ref m_wName, .int m_bank, .int m_rb, .ref m_follow, .ref m_lengths, .ref m_said, .int m_latest, .int m_talked, .int m_sum, .int m_doneSet, .int m_w, .ref m_more, .ref m_laidRow, .int m_laid, .ref m_piece, .ref m_far, .ref m_steps, .ref m_ends, .ref m_hPlace, .ref m_hWhat, .ref m_hValue, .ref m_hTold, .ref m_hUntold, .int m_sounds, .int m_time, .ref m_ways, .ref m_goesOn, .ref m_boxMany, .ref m_boxLatest, .ref m_boxSum, .ref m_boxW, .ref m_boxDone, .ref m_boxSaid]))] s.heap := hP
  have hl := lv_entry ([.ref o]) (n := 1) (Nat.le_of_ble_eq_true rfl)
  rw [lg_entry_eq]
  generalize (lg_sl ([.ref o]) ++ List.replicate (1 - (lg_sl ([.ref o])).length) Slot.unset).toArray = ls at hl ⊢
  have hl : lv_has ls 1 [(0, .ref o)] := hl
  refine lv_aload_n hx hb dX11_misplaced_0 rfl (lv_at hl 0 rfl) ?_
  refine lv_aload_n hx hb dX11_misplaced_1 rfl (lv_at hl 0 rfl) ?_
  refine va_get (D := D) (ci := 11) (v := .int m_token) (C := RX11) (T := TX11) (N := 54) hx hb hts (by decide +kernel) hown hK hP 0 rfl rfl 8 (by decide) (hts (.fieldLink RX11 151 "LastLetterModel" "token" "I") (by decide +kernel)) (fun _ h9 => h9) rfl dX11_misplaced_2 ?_
  refine lv_iconst (v := 1) hx hb dX11_misplaced_5 (by decide) ?_
  refine lv_icmp_ne (tgt := 13) hx hb dX11_misplaced_6 (by decide) (fun c_1 => ?_) (fun c_1 => ?_)
  · refine lv_iconst (v := 2) hx hb dX11_misplaced_13 (by decide) ?_
    refine lv_aload_n hx hb dX11_misplaced_14 rfl (lv_at hl 0 rfl) ?_
    refine va_get (D := D) (ci := 11) (v := .int m_at) (C := RX11) (T := TX11) (N := 54) hx hb hts (by decide +kernel) hown hK hP 0 rfl rfl 6 (by decide) (hts (.fieldLink RX11 144 "LastLetterModel" "at" "I") (by decide +kernel)) (fun _ h9 => h9) rfl dX11_misplaced_15 ?_
    refine xCv (wr := []) (win := [(o, .inr (11, [.ref m_tape, .ref m_text, .int m_taped, .int m_size, .int fk, .int fp, .int m_at, .int m_end, .int m_token, .int m_number, .long m_name, .ref m_words, .ref m_errands, .ref m_alikes, .ref m_law, .ref m_worth, .ref m_times, .ref m_eWord, .ref m_eAfter, .ref m_sound, .ref m_isLaw, .ref m_wName, .int m_bank, .int m_rb, .ref m_follow, .ref m_lengths, .ref m_said, .int m_latest, .int m_talked, .int m_sum, .int m_doneSet, .int m_w, .ref m_more, .ref m_laidRow, .int m_laid, .ref m_piece, .ref m_far, .ref m_steps, .ref m_ends, .ref m_hPlace, .ref m_hWhat, .ref m_hValue, .ref m_hTold, .ref m_hUntold, .int m_sounds, .int m_time, .ref m_ways, .ref m_goesOn, .ref m_boxMany, .ref m_boxLatest, .ref m_boxSum, .ref m_boxW, .ref m_boxDone, .ref m_boxSaid]))]) hP hD hS hA [0] [] rfl rfl (by decide) (by decide) (va_runV (As := [.int 2, .int m_at]) (rest := []) ⟨hx, hb, hml, hown, hts⟩ (c_X11_fails l D cB cI cJ cS cZ cO s.heap.size o 2 m_at m_tape m_text m_taped m_size fk fp m_at m_end m_token m_number m_name m_words m_errands m_alikes m_law m_worth m_times m_eWord m_eAfter m_sound m_isLaw m_wName m_bank m_rb m_follow m_lengths m_said m_latest m_talked m_sum m_doneSet m_w m_more m_laidRow m_laid m_piece m_far m_steps m_ends m_hPlace m_hWhat m_hValue m_hTold m_hUntold m_sounds m_time m_ways m_goesOn m_boxMany m_boxLatest m_boxSum m_boxW m_boxDone m_boxSaid (by first | assumption | omega | decide)) (cwV 2 hts gX11_misplaced_X11_fails rfl rfl rfl (by decide +kernel) ⟨Nat.le_of_ble_eq_true rfl, Nat.le_of_ble_eq_true rfl⟩) (xPreV (win := [(o, .inr (11, [.ref m_tape, .ref m_text, .int m_taped, .int m_size, .int fk, .int fp, .int m_at, .int m_end, .int m_token, .int m_number, .long m_name, .ref m_words, .ref m_errands, .ref m_alikes, .ref m_law, .ref m_worth, .ref m_times, .ref m_eWord, .ref m_eAfter, .ref m_sound, .ref m_isLaw, .ref m_wName, .int m_bank, .int m_rb, .ref m_follow, .ref m_lengths, .ref m_said, .int m_latest, .int m_talked, .int m_sum, .int m_doneSet, .int m_w, .ref m_more, .ref m_laidRow, .int m_laid, .ref m_piece, .ref m_far, .ref m_steps, .ref m_ends, .ref m_hPlace, .ref m_hWhat, .ref m_hValue, .ref m_hTold, .ref m_hUntold, .int m_sounds, .int m_time, .ref m_ways, .ref m_goesOn, .ref m_boxMany, .ref m_boxLatest, .ref m_boxSum, .ref m_boxW, .ref m_boxDone, .ref m_boxSaid]))]) hN hK hP hD [0] (by decide) rfl 0 11 rfl rfl rfl) rfl rfl hl.1 rfl (lv_room (Nat.le_of_ble_eq_true rfl)) dX11_misplaced_18 ⟨Nat.le_of_ble_eq_true rfl, Nat.le_of_ble_eq_true rfl⟩) (fun w0 H locs hw hP hD hS => ?_)
    obtain ⟨fk2_2, fp2_3, rfl, hf_4⟩ := hw
    have hP : va_P D vwCl [(o, .inr (11, [.ref m_tape, .ref m_text, .int m_taped, .int m_size, .int fk2_2, .int fp2_3, .int m_at, .int m_end, .int m_token, .int m_number, .long m_name, .ref m_words, .ref m_errands, .ref m_alikes, .ref m_law, .ref m_worth, .ref m_times, .ref m_eWord, .ref m_eAfter, .ref m_sound, .ref m_isLaw, .ref m_wName, .int m_bank, .int m_rb, .ref m_follow, .ref m_lengths, .ref m_said, .int m_latest, .int m_talked, .int m_sum, .int m_doneSet, .int m_w, .ref m_more, .ref m_laidRow, .int m_laid, .ref m_piece, .ref m_far, .ref m_steps, .ref m_ends, .ref m_hPlace, .ref m_hWhat, .ref m_hValue, .ref m_hTold, .ref m_hUntold, .int m_sounds, .int m_time, .ref m_ways, .ref m_goesOn, .ref m_boxMany, .ref m_boxLatest, .ref m_boxSum, .ref m_boxW, .ref m_boxDone, .ref m_boxSaid]))] H := hP
    have hD : va_D A [(o, .inr (11, [.ref m_tape, .ref m_text, .int m_taped, .int m_size, .int fk2_2, .int fp2_3, .int m_at, .int m_end, .int m_token, .int m_number, .long m_name, .ref m_words, .ref m_errands, .ref m_alikes, .ref m_law, .ref m_worth, .ref m_times, .ref m_eWord, .ref m_eAfter, .ref m_sound, .ref m_isLaw, .ref m_wName, .int m_bank, .int m_rb, .ref m_follow, .ref m_lengths, .ref m_said, .int m_latest, .int m_talked, .int m_sum, .int m_doneSet, .int m_w, .ref m_more, .ref m_laidRow, .int m_laid, .ref m_piece, .ref m_far, .ref m_steps, .ref m_ends, .ref m_hPlace, .ref m_hWhat, .ref m_hValue, .ref m_hTold, .ref m_hUntold, .int m_sounds, .int m_time, .ref m_ways, .ref m_goesOn, .ref m_boxMany, .ref m_boxLatest, .ref m_boxSum, .ref m_boxW, .ref m_boxDone, .ref m_boxSaid]))] := hD
    have hP9 := hP.sub (ws' := [(o, .inr (11, [.ref m_tape, .ref m_text, .int m_taped, .int m_size, .int fk2_2, .int fp2_3, .int m_at, .int m_end, .int m_token, .int m_number, .long m_name, .ref m_words, .ref m_errands, .ref m_alikes, .ref m_law, .ref m_worth, .ref m_times, .ref m_eWord, .ref m_eAfter, .ref m_sound, .ref m_isLaw, .ref m_wName, .int m_bank, .int m_rb, .ref m_follow, .ref m_lengths, .ref m_said, .int m_latest, .int m_talked, .int m_sum, .int m_doneSet, .int m_w, .ref m_more, .ref m_laidRow, .int m_laid, .ref m_piece, .ref m_far, .ref m_steps, .ref m_ends, .ref m_hPlace, .ref m_hWhat, .ref m_hValue, .ref m_hTold, .ref m_hUntold, .int m_sounds, .int m_time, .ref m_ways, .ref m_goesOn, .ref m_boxMany, .ref m_boxLatest, .ref m_boxSum, .ref m_boxW, .ref m_boxDone, .ref m_boxSaid]))]) [0] rfl
    have hD9 := hD.sub (ws' := [(o, .inr (11, [.ref m_tape, .ref m_text, .int m_taped, .int m_size, .int fk2_2, .int fp2_3, .int m_at, .int m_end, .int m_token, .int m_number, .long m_name, .ref m_words, .ref m_errands, .ref m_alikes, .ref m_law, .ref m_worth, .ref m_times, .ref m_eWord, .ref m_eAfter, .ref m_sound, .ref m_isLaw, .ref m_wName, .int m_bank, .int m_rb, .ref m_follow, .ref m_lengths, .ref m_said, .int m_latest, .int m_talked, .int m_sum, .int m_doneSet, .int m_w, .ref m_more, .ref m_laidRow, .int m_laid, .ref m_piece, .ref m_far, .ref m_steps, .ref m_ends, .ref m_hPlace, .ref m_hWhat, .ref m_hValue, .ref m_hTold, .ref m_hUntold, .int m_sounds, .int m_time, .ref m_ways, .ref m_goesOn, .ref m_boxMany, .ref m_boxLatest, .ref m_boxSum, .ref m_boxW, .ref m_boxDone, .ref m_boxSaid]))]) [0] (by decide) rfl
    refine W.widen (k := 0) (n := 0) (Nat.le_of_ble_eq_true rfl) (Nat.le_of_ble_eq_true rfl) ?_
    exact W.vret hx hb hr (fun tz htz hWz => ⟨⟨[(o, .inr (11, [.ref m_tape, .ref m_text, .int m_taped, .int m_size, .int fk2_2, .int fp2_3, .int m_at, .int m_end, .int m_token, .int m_number, .long m_name, .ref m_words, .ref m_errands, .ref m_alikes, .ref m_law, .ref m_worth, .ref m_times, .ref m_eWord, .ref m_eAfter, .ref m_sound, .ref m_isLaw, .ref m_wName, .int m_bank, .int m_rb, .ref m_follow, .ref m_lengths, .ref m_said, .int m_latest, .int m_talked, .int m_sum, .int m_doneSet, .int m_w, .ref m_more, .ref m_laidRow, .int m_laid, .ref m_piece, .ref m_far, .ref m_steps, .ref m_ends, .ref m_hPlace, .ref m_hWhat, .ref m_hValue, .ref m_hTold, .ref m_hUntold, .int m_sounds, .int m_time, .ref m_ways, .ref m_goesOn, .ref m_boxMany, .ref m_boxLatest, .ref m_boxSum, .ref m_boxW, .ref m_boxDone, .ref m_boxSaid]))], rfl, ⟨fk2_2, fp2_3, rfl, hf_4⟩, by rw [htz]; exact hP9, va_K.moved hWz.alike hK, hD9⟩, hS.F htz⟩) hS.2.2 dX11_misplaced_21
  · refine lv_iconst (v := 1) hx hb dX11_misplaced_9 (by decide) ?_
    refine lv_goto (tgt := 14) hx hb dX11_misplaced_10 (by decide) ?_
    refine lv_aload_n hx hb dX11_misplaced_14 rfl (lv_at hl 0 rfl) ?_
    refine va_get (D := D) (ci := 11) (v := .int m_at) (C := RX11) (T := TX11) (N := 54) hx hb hts (by decide +kernel) hown hK hP 0 rfl rfl 6 (by decide) (hts (.fieldLink RX11 144 "LastLetterModel" "at" "I") (by decide +kernel)) (fun _ h9 => h9) rfl dX11_misplaced_15 ?_
    refine xCv (wr := []) (win := [(o, .inr (11, [.ref m_tape, .ref m_text, .int m_taped, .int m_size, .int fk, .int fp, .int m_at, .int m_end, .int m_token, .int m_number, .long m_name, .ref m_words, .ref m_errands, .ref m_alikes, .ref m_law, .ref m_worth, .ref m_times, .ref m_eWord, .ref m_eAfter, .ref m_sound, .ref m_isLaw, .ref m_wName, .int m_bank, .int m_rb, .ref m_follow, .ref m_lengths, .ref m_said, .int m_latest, .int m_talked, .int m_sum, .int m_doneSet, .int m_w, .ref m_more, .ref m_laidRow, .int m_laid, .ref m_piece, .ref m_far, .ref m_steps, .ref m_ends, .ref m_hPlace, .ref m_hWhat, .ref m_hValue, .ref m_hTold, .ref m_hUntold, .int m_sounds, .int m_time, .ref m_ways, .ref m_goesOn, .ref m_boxMany, .ref m_boxLatest, .ref m_boxSum, .ref m_boxW, .ref m_boxDone, .ref m_boxSaid]))]) hP hD hS hA [0] [] rfl rfl (by decide) (by decide) (va_runV (As := [.int 1, .int m_at]) (rest := []) ⟨hx, hb, hml, hown, hts⟩ (c_X11_fails l D cB cI cJ cS cZ cO s.heap.size o 1 m_at m_tape m_text m_taped m_size fk fp m_at m_end m_token m_number m_name m_words m_errands m_alikes m_law m_worth m_times m_eWord m_eAfter m_sound m_isLaw m_wName m_bank m_rb m_follow m_lengths m_said m_latest m_talked m_sum m_doneSet m_w m_more m_laidRow m_laid m_piece m_far m_steps m_ends m_hPlace m_hWhat m_hValue m_hTold m_hUntold m_sounds m_time m_ways m_goesOn m_boxMany m_boxLatest m_boxSum m_boxW m_boxDone m_boxSaid (by first | assumption | omega | decide)) (cwV 2 hts gX11_misplaced_X11_fails rfl rfl rfl (by decide +kernel) ⟨Nat.le_of_ble_eq_true rfl, Nat.le_of_ble_eq_true rfl⟩) (xPreV (win := [(o, .inr (11, [.ref m_tape, .ref m_text, .int m_taped, .int m_size, .int fk, .int fp, .int m_at, .int m_end, .int m_token, .int m_number, .long m_name, .ref m_words, .ref m_errands, .ref m_alikes, .ref m_law, .ref m_worth, .ref m_times, .ref m_eWord, .ref m_eAfter, .ref m_sound, .ref m_isLaw, .ref m_wName, .int m_bank, .int m_rb, .ref m_follow, .ref m_lengths, .ref m_said, .int m_latest, .int m_talked, .int m_sum, .int m_doneSet, .int m_w, .ref m_more, .ref m_laidRow, .int m_laid, .ref m_piece, .ref m_far, .ref m_steps, .ref m_ends, .ref m_hPlace, .ref m_hWhat, .ref m_hValue, .ref m_hTold, .ref m_hUntold, .int m_sounds, .int m_time, .ref m_ways, .ref m_goesOn, .ref m_boxMany, .ref m_boxLatest, .ref m_boxSum, .ref m_boxW, .ref m_boxDone, .ref m_boxSaid]))]) hN hK hP hD [0] (by decide) rfl 0 11 rfl rfl rfl) rfl rfl hl.1 rfl (lv_room (Nat.le_of_ble_eq_true rfl)) dX11_misplaced_18 ⟨Nat.le_of_ble_eq_true rfl, Nat.le_of_ble_eq_true rfl⟩) (fun w0 H locs hw hP hD hS => ?_)
    obtain ⟨fk2_5, fp2_6, rfl, hf_7⟩ := hw
    have hP : va_P D vwCl [(o, .inr (11, [.ref m_tape, .ref m_text, .int m_taped, .int m_size, .int fk2_5, .int fp2_6, .int m_at, .int m_end, .int m_token, .int m_number, .long m_name, .ref m_words, .ref m_errands, .ref m_alikes, .ref m_law, .ref m_worth, .ref m_times, .ref m_eWord, .ref m_eAfter, .ref m_sound, .ref m_isLaw, .ref m_wName, .int m_bank, .int m_rb, .ref m_follow, .ref m_lengths, .ref m_said, .int m_latest, .int m_talked, .int m_sum, .int m_doneSet, .int m_w, .ref m_more, .ref m_laidRow, .int m_laid, .ref m_piece, .ref m_far, .ref m_steps, .ref m_ends, .ref m_hPlace, .ref m_hWhat, .ref m_hValue, .ref m_hTold, .ref m_hUntold, .int m_sounds, .int m_time, .ref m_ways, .ref m_goesOn, .ref m_boxMany, .ref m_boxLatest, .ref m_boxSum, .ref m_boxW, .ref m_boxDone, .ref m_boxSaid]))] H := hP
    have hD : va_D A [(o, .inr (11, [.ref m_tape, .ref m_text, .int m_taped, .int m_size, .int fk2_5, .int fp2_6, .int m_at, .int m_end, .int m_token, .int m_number, .long m_name, .ref m_words, .ref m_errands, .ref m_alikes, .ref m_law, .ref m_worth, .ref m_times, .ref m_eWord, .ref m_eAfter, .ref m_sound, .ref m_isLaw, .ref m_wName, .int m_bank, .int m_rb, .ref m_follow, .ref m_lengths, .ref m_said, .int m_latest, .int m_talked, .int m_sum, .int m_doneSet, .int m_w, .ref m_more, .ref m_laidRow, .int m_laid, .ref m_piece, .ref m_far, .ref m_steps, .ref m_ends, .ref m_hPlace, .ref m_hWhat, .ref m_hValue, .ref m_hTold, .ref m_hUntold, .int m_sounds, .int m_time, .ref m_ways, .ref m_goesOn, .ref m_boxMany, .ref m_boxLatest, .ref m_boxSum, .ref m_boxW, .ref m_boxDone, .ref m_boxSaid]))] := hD
    have hP9 := hP.sub (ws' := [(o, .inr (11, [.ref m_tape, .ref m_text, .int m_taped, .int m_size, .int fk2_5, .int fp2_6, .int m_at, .int m_end, .int m_token, .int m_number, .long m_name, .ref m_words, .ref m_errands, .ref m_alikes, .ref m_law, .ref m_worth, .ref m_times, .ref m_eWord, .ref m_eAfter, .ref m_sound, .ref m_isLaw, .ref m_wName, .int m_bank, .int m_rb, .ref m_follow, .ref m_lengths, .ref m_said, .int m_latest, .int m_talked, .int m_sum, .int m_doneSet, .int m_w, .ref m_more, .ref m_laidRow, .int m_laid, .ref m_piece, .ref m_far, .ref m_steps, .ref m_ends, .ref m_hPlace, .ref m_hWhat, .ref m_hValue, .ref m_hTold, .ref m_hUntold, .int m_sounds, .int m_time, .ref m_ways, .ref m_goesOn, .ref m_boxMany, .ref m_boxLatest, .ref m_boxSum, .ref m_boxW, .ref m_boxDone, .ref m_boxSaid]))]) [0] rfl
    have hD9 := hD.sub (ws' := [(o, .inr (11, [.ref m_tape, .ref m_text, .int m_taped, .int m_size, .int fk2_5, .int fp2_6, .int m_at, .int m_end, .int m_token, .int m_number, .long m_name, .ref m_words, .ref m_errands, .ref m_alikes, .ref m_law, .ref m_worth, .ref m_times, .ref m_eWord, .ref m_eAfter, .ref m_sound, .ref m_isLaw, .ref m_wName, .int m_bank, .int m_rb, .ref m_follow, .ref m_lengths, .ref m_said, .int m_latest, .int m_talked, .int m_sum, .int m_doneSet, .int m_w, .ref m_more, .ref m_laidRow, .int m_laid, .ref m_piece, .ref m_far, .ref m_steps, .ref m_ends, .ref m_hPlace, .ref m_hWhat, .ref m_hValue, .ref m_hTold, .ref m_hUntold, .int m_sounds, .int m_time, .ref m_ways, .ref m_goesOn, .ref m_boxMany, .ref m_boxLatest, .ref m_boxSum, .ref m_boxW, .ref m_boxDone, .ref m_boxSaid]))]) [0] (by decide) rfl
    refine W.widen (k := 0) (n := 0) (Nat.le_of_ble_eq_true rfl) (Nat.le_of_ble_eq_true rfl) ?_
    exact W.vret hx hb hr (fun tz htz hWz => ⟨⟨[(o, .inr (11, [.ref m_tape, .ref m_text, .int m_taped, .int m_size, .int fk2_5, .int fp2_6, .int m_at, .int m_end, .int m_token, .int m_number, .long m_name, .ref m_words, .ref m_errands, .ref m_alikes, .ref m_law, .ref m_worth, .ref m_times, .ref m_eWord, .ref m_eAfter, .ref m_sound, .ref m_isLaw, .ref m_wName, .int m_bank, .int m_rb, .ref m_follow, .ref m_lengths, .ref m_said, .int m_latest, .int m_talked, .int m_sum, .int m_doneSet, .int m_w, .ref m_more, .ref m_laidRow, .int m_laid, .ref m_piece, .ref m_far, .ref m_steps, .ref m_ends, .ref m_hPlace, .ref m_hWhat, .ref m_hValue, .ref m_hTold, .ref m_hUntold, .int m_sounds, .int m_time, .ref m_ways, .ref m_goesOn, .ref m_boxMany, .ref m_boxLatest, .ref m_boxSum, .ref m_boxW, .ref m_boxDone, .ref m_boxSaid]))], rfl, ⟨fk2_5, fp2_6, rfl, hf_7⟩, by rw [htz]; exact hP9, va_K.moved hWz.alike hK, hD9⟩, hS.F htz⟩) hS.2.2 dX11_misplaced_21

set_option maxHeartbeats 4000000 in
set_option maxRecDepth 100000 in
theorem c_X11_isWord (l : Launch) (D : va_G) (cB cI cJ cS cZ cO : ClassId) (sz : Nat) (o : Nat) (y : Int64) (m_tape : Nat) (m_text : Nat) (m_taped : Int32) (m_size : Int32) (m_faultKind : Int32) (m_faultPlace : Int32) (m_at : Int32) (m_end : Int32) (tk : Int32) (m_number : Int32) (nm : Int64) (m_words : Nat) (m_errands : Nat) (m_alikes : Nat) (m_law : Nat) (m_worth : Nat) (m_times : Nat) (m_eWord : Nat) (m_eAfter : Nat) (m_sound : Nat) (m_isLaw : Nat) (m_wName : Nat) (m_bank : Int32) (m_rb : Int32) (m_follow : Nat) (m_lengths : Nat) (m_said : Nat) (m_latest : Int32) (m_talked : Int32) (m_sum : Int32) (m_doneSet : Int32) (m_w : Int32) (m_more : Nat) (m_laidRow : Nat) (m_laid : Int32) (m_piece : Nat) (m_far : Nat) (m_steps : Nat) (m_ends : Nat) (m_hPlace : Nat) (m_hWhat : Nat) (m_hValue : Nat) (m_hTold : Nat) (m_hUntold : Nat) (m_sounds : Int32) (m_time : Int32) (m_ways : Nat) (m_goesOn : Nat) (m_boxMany : Nat) (m_boxLatest : Nat) (m_boxSum : Nat) (m_boxW : Nat) (m_boxDone : Nat) (m_boxSaid : Nat) : Met l yX11_isWord wsX11_isWord ({ frames := 0, cells := 0, slots := 0, locals := 0 }) (xPre D (tyL cB cI cJ cS cZ cO) [(o, .inr (11, [.ref m_tape, .ref m_text, .int m_taped, .int m_size, .int m_faultKind, .int m_faultPlace, .int m_at, .int m_end, .int tk, .int m_number, .long nm, .ref m_words, .ref m_errands, .ref m_alikes, .ref m_law, .ref m_worth, .ref m_times, .ref m_eWord, .ref m_eAfter, .ref m_sound, .ref m_isLaw, .ref m_wName, .int m_bank, .int m_rb, .ref m_follow, .ref m_lengths, .ref m_said, .int m_latest, .int m_talked, .int m_sum, .int m_doneSet, .int m_w, .ref m_more, .ref m_laidRow, .int m_laid, .ref m_piece, .ref m_far, .ref m_steps, .ref m_ends, .ref m_hPlace, .ref m_hWhat, .ref m_hValue, .ref m_hTold, .ref m_hUntold, .int m_sounds, .int m_time, .ref m_ways, .ref m_goesOn, .ref m_boxMany, .ref m_boxLatest, .ref m_boxSum, .ref m_boxW, .ref m_boxDone, .ref m_boxSaid]))] sz [.ref o, .long y]) (xQi D (tyL cB cI cJ cS cZ cO) (va_A [(o, .inr (11, [.ref m_tape, .ref m_text, .int m_taped, .int m_size, .int m_faultKind, .int m_faultPlace, .int m_at, .int m_end, .int tk, .int m_number, .long nm, .ref m_words, .ref m_errands, .ref m_alikes, .ref m_law, .ref m_worth, .ref m_times, .ref m_eWord, .ref m_eAfter, .ref m_sound, .ref m_isLaw, .ref m_wName, .int m_bank, .int m_rb, .ref m_follow, .ref m_lengths, .ref m_said, .int m_latest, .int m_talked, .int m_sum, .int m_doneSet, .int m_w, .ref m_more, .ref m_laidRow, .int m_laid, .ref m_piece, .ref m_far, .ref m_steps, .ref m_ends, .ref m_hPlace, .ref m_hWhat, .ref m_hValue, .ref m_hTold, .ref m_hUntold, .int m_sounds, .int m_time, .ref m_ways, .ref m_goesOn, .ref m_boxMany, .ref m_boxLatest, .ref m_boxSum, .ref m_boxW, .ref m_boxDone, .ref m_boxSaid]))] sz) (fun (r : Int32) (u : va_W) => u = [(o, .inr (11, [.ref m_tape, .ref m_text, .int m_taped, .int m_size, .int m_faultKind, .int m_faultPlace, .int m_at, .int m_end, .int tk, .int m_number, .long nm, .ref m_words, .ref m_errands, .ref m_alikes, .ref m_law, .ref m_worth, .ref m_times, .ref m_eWord, .ref m_eAfter, .ref m_sound, .ref m_isLaw, .ref m_wName, .int m_bank, .int m_rb, .ref m_follow, .ref m_lengths, .ref m_said, .int m_latest, .int m_talked, .int m_sum, .int m_doneSet, .int m_w, .ref m_more, .ref m_laidRow, .int m_laid, .ref m_piece, .ref m_far, .ref m_steps, .ref m_ends, .ref m_hPlace, .ref m_hWhat, .ref m_hValue, .ref m_hTold, .ref m_hUntold, .int m_sounds, .int m_time, .ref m_ways, .ref m_goesOn, .ref m_boxMany, .ref m_boxLatest, .ref m_boxSum, .ref m_boxW, .ref m_boxDone, .ref m_boxSaid]))] ∧ (r = 0 ∨ r = 1) ∧ (r = 1 → tk = 2 ∧ nm = y) ∧ (r = 0 → tk = 2 → nm ≠ y))) 0 0 (va_A [(o, .inr (11, [.ref m_tape, .ref m_text, .int m_taped, .int m_size, .int m_faultKind, .int m_faultPlace, .int m_at, .int m_end, .int tk, .int m_number, .long nm, .ref m_words, .ref m_errands, .ref m_alikes, .ref m_law, .ref m_worth, .ref m_times, .ref m_eWord, .ref m_eAfter, .ref m_sound, .ref m_isLaw, .ref m_wName, .int m_bank, .int m_rb, .ref m_follow, .ref m_lengths, .ref m_said, .int m_latest, .int m_talked, .int m_sum, .int m_doneSet, .int m_w, .ref m_more, .ref m_laidRow, .int m_laid, .ref m_piece, .ref m_far, .ref m_steps, .ref m_ends, .ref m_hPlace, .ref m_hWhat, .ref m_hValue, .ref m_hTold, .ref m_hUntold, .int m_sounds, .int m_time, .ref m_ways, .ref m_goesOn, .ref m_boxMany, .ref m_boxLatest, .ref m_boxSum, .ref m_boxW, .ref m_boxDone, .ref m_boxSaid]))] sz) := by
  refine Met.ofW (cc := cX11_isWord) (maxL := 3) (ret := (some .boolean)) (by decide) rfl ?_
  intro p e s m args below meth c s₁ B hml hv
  obtain ⟨rfl, hsz, hP, hK, hD0, hN⟩ := hv
  have hx := B.exec
  have hb := B.bytes
  have hr := B.returns
  have hts := atoms_spec (ws := wsX11_isWord) B.pre
  have hown : s.vm.findClass RX11 = some m.cls := findClass_of_methodNamed B.named
  have hlocks := B.notSynchronized
  subst hsz
  have hD := hD0.self (sz := s.heap.size)
  generalize hAe : va_A [(o, .inr (11, [.ref m_tape, .ref m_text, .int m_taped, .int m_size, .int m_faultKind, .int m_faultPlace, .int m_at, .int m_end, .int tk, .int m_number, .long nm, .ref m_words, .ref m_errands, .ref m_alikes, .ref m_law, .ref m_worth, .ref m_times, .ref m_eWord, .ref m_eAfter, .ref m_sound, .ref m_isLaw, .ref m_wName, .int m_bank, .int m_rb, .ref m_follow, .ref m_lengths, .ref m_said, .int m_latest, .int m_talked, .int m_sum, .int m_doneSet, .int m_w, .ref m_more, .ref m_laidRow, .int m_laid, .ref m_piece, .ref m_far, .ref m_steps, .ref m_ends, .ref m_hPlace, .ref m_hWhat, .ref m_hValue, .ref m_hTold, .ref m_hUntold, .int m_sounds, .int m_time, .ref m_ways, .ref m_goesOn, .ref m_boxMany, .ref m_boxLatest, .ref m_boxSum, .ref m_boxW, .ref m_boxDone, .ref m_boxSaid]))] s.heap.size = A at hD ⊢
  have hA : ∀ q : Nat, s.heap.size ≤ q → A q := fun q h => by rw [← hAe]; exact Or.inr h
  have hS : va_S A s.heap s.heap [] := va_S.rf
  have hP : va_P D vwCl [(o, .inr (11, [.ref m_tape, .ref m_text, .int m_taped, .int m_size, .int m_faultKind, .int m_faultPlace, .int m_at, .int m_end, .int tk, .int m_number, .long nm, .ref m_words, .ref m_errands, .ref m_alikes, .ref m_law, .ref m_worth, .ref m_times, .ref m_eWord, .ref m_eAfter, .ref m_sound, .ref m_isLaw, .ref m_wName, .int m_bank, .int m_rb, .ref m_follow, .ref m_lengths, .ref m_said, .int m_latest, .int m_talked, .int m_sum, .int m_doneSet, .int m_w, .ref m_more, .ref m_laidRow, .int m_laid, .ref m_piece, .ref m_far, .ref m_steps, .ref m_ends, .ref m_hPlace, .ref m_hWhat, .ref m_hValue, .ref m_hTold, .ref m_hUntold, .int m_sounds, .int m_time, .ref m_ways, .ref m_goesOn, .ref m_boxMany, .ref m_boxLatest, .ref m_boxSum, .ref m_boxW, .ref m_boxDone, .ref m_boxSaid]))] s.heap := hP
  have hl := lv_entry ([.ref o, .long y]) (n := 3) (Nat.le_of_ble_eq_true rfl)
  rw [lg_entry_eq]
  generalize (lg_sl ([.ref o, .long y]) ++ List.replicate (3 - (lg_sl ([.ref o, .long y])).length) Slot.unset).toArray = ls at hl ⊢
  have hl : lv_has ls 3 [(0, .ref o), (1, .long y)] := hl
  refine lv_aload_n hx hb dX11_isWord_0 rfl (lv_at hl 0 rfl) ?_
  refine va_get (D := D) (ci := 11) (v := .int tk) (C := RX11) (T := TX11) (N := 54) hx hb hts (by decide +kernel) hown hK hP 0 rfl rfl 8 (by decide) (hts (.fieldLink RX11 151 "LastLetterModel" "token" "I") (by decide +kernel)) (fun _ h9 => h9) rfl dX11_isWord_1 ?_
  refine lv_iconst (v := 2) hx hb dX11_isWord_4 (by decide) ?_
  refine lv_icmp_ne (tgt := 21) hx hb dX11_isWord_5 (by decide) (fun c_1 => ?_) (fun c_1 => ?_)
  · refine lv_iconst (v := 0) hx hb dX11_isWord_21 (by decide) ?_
    have hP9 := hP.sub (ws' := [(o, .inr (11, [.ref m_tape, .ref m_text, .int m_taped, .int m_size, .int m_faultKind, .int m_faultPlace, .int m_at, .int m_end, .int tk, .int m_number, .long nm, .ref m_words, .ref m_errands, .ref m_alikes, .ref m_law, .ref m_worth, .ref m_times, .ref m_eWord, .ref m_eAfter, .ref m_sound, .ref m_isLaw, .ref m_wName, .int m_bank, .int m_rb, .ref m_follow, .ref m_lengths, .ref m_said, .int m_latest, .int m_talked, .int m_sum, .int m_doneSet, .int m_w, .ref m_more, .ref m_laidRow, .int m_laid, .ref m_piece, .ref m_far, .ref m_steps, .ref m_ends, .ref m_hPlace, .ref m_hWhat, .ref m_hValue, .ref m_hTold, .ref m_hUntold, .int m_sounds, .int m_time, .ref m_ways, .ref m_goesOn, .ref m_boxMany, .ref m_boxLatest, .ref m_boxSum, .ref m_boxW, .ref m_boxDone, .ref m_boxSaid]))]) [0] rfl
    have hD9 := hD.sub (ws' := [(o, .inr (11, [.ref m_tape, .ref m_text, .int m_taped, .int m_size, .int m_faultKind, .int m_faultPlace, .int m_at, .int m_end, .int tk, .int m_number, .long nm, .ref m_words, .ref m_errands, .ref m_alikes, .ref m_law, .ref m_worth, .ref m_times, .ref m_eWord, .ref m_eAfter, .ref m_sound, .ref m_isLaw, .ref m_wName, .int m_bank, .int m_rb, .ref m_follow, .ref m_lengths, .ref m_said, .int m_latest, .int m_talked, .int m_sum, .int m_doneSet, .int m_w, .ref m_more, .ref m_laidRow, .int m_laid, .ref m_piece, .ref m_far, .ref m_steps, .ref m_ends, .ref m_hPlace, .ref m_hWhat, .ref m_hValue, .ref m_hTold, .ref m_hUntold, .int m_sounds, .int m_time, .ref m_ways, .ref m_goesOn, .ref m_boxMany, .ref m_boxLatest, .ref m_boxSum, .ref m_boxW, .ref m_boxDone, .ref m_boxSaid]))]) [0] (by decide) rfl
    refine W.widen (k := 0) (n := 0) (Nat.le_of_ble_eq_true rfl) (Nat.le_of_ble_eq_true rfl) ?_
    exact W.zret (v := 0) hx hb hr (by decide) (fun tz htz hWz => ⟨⟨0, [(o, .inr (11, [.ref m_tape, .ref m_text, .int m_taped, .int m_size, .int m_faultKind, .int m_faultPlace, .int m_at, .int m_end, .int tk, .int m_number, .long nm, .ref m_words, .ref m_errands, .ref m_alikes, .ref m_law, .ref m_worth, .ref m_times, .ref m_eWord, .ref m_eAfter, .ref m_sound, .ref m_isLaw, .ref m_wName, .int m_bank, .int m_rb, .ref m_follow, .ref m_lengths, .ref m_said, .int m_latest, .int m_talked, .int m_sum, .int m_doneSet, .int m_w, .ref m_more, .ref m_laidRow, .int m_laid, .ref m_piece, .ref m_far, .ref m_steps, .ref m_ends, .ref m_hPlace, .ref m_hWhat, .ref m_hValue, .ref m_hTold, .ref m_hUntold, .int m_sounds, .int m_time, .ref m_ways, .ref m_goesOn, .ref m_boxMany, .ref m_boxLatest, .ref m_boxSum, .ref m_boxW, .ref m_boxDone, .ref m_boxSaid]))], rfl, ⟨rfl, (Or.inl rfl), (fun h => absurd h (by decide)), (fun _ h => absurd h c_1)⟩, by rw [htz]; exact hP9, va_K.moved hWz.alike hK, hD9⟩, hS.F htz⟩) hS.2.2 dX11_isWord_22
  · refine lv_aload_n hx hb dX11_isWord_8 rfl (lv_at hl 0 rfl) ?_
    refine va_get (D := D) (ci := 11) (v := .long nm) (C := RX11) (T := TX11) (N := 54) hx hb hts (by decide +kernel) hown hK hP 0 rfl rfl 10 (by decide) (hts (.fieldLink RX11 158 "LastLetterModel" "name" "J") (by decide +kernel)) (fun _ h9 => h9) rfl dX11_isWord_9 ?_
    refine lv_lload_n hx hb dX11_isWord_12 rfl (lv_at hl 1 rfl) ?_
    refine W.lcmp hx hb dX11_isWord_13 ?_
    refine lv_if_ne (tgt := 21) hx hb dX11_isWord_14 (by decide) (fun c_2 => ?_) (fun c_2 => ?_)
    · refine lv_iconst (v := 0) hx hb dX11_isWord_21 (by decide) ?_
      have hP9 := hP.sub (ws' := [(o, .inr (11, [.ref m_tape, .ref m_text, .int m_taped, .int m_size, .int m_faultKind, .int m_faultPlace, .int m_at, .int m_end, .int tk, .int m_number, .long nm, .ref m_words, .ref m_errands, .ref m_alikes, .ref m_law, .ref m_worth, .ref m_times, .ref m_eWord, .ref m_eAfter, .ref m_sound, .ref m_isLaw, .ref m_wName, .int m_bank, .int m_rb, .ref m_follow, .ref m_lengths, .ref m_said, .int m_latest, .int m_talked, .int m_sum, .int m_doneSet, .int m_w, .ref m_more, .ref m_laidRow, .int m_laid, .ref m_piece, .ref m_far, .ref m_steps, .ref m_ends, .ref m_hPlace, .ref m_hWhat, .ref m_hValue, .ref m_hTold, .ref m_hUntold, .int m_sounds, .int m_time, .ref m_ways, .ref m_goesOn, .ref m_boxMany, .ref m_boxLatest, .ref m_boxSum, .ref m_boxW, .ref m_boxDone, .ref m_boxSaid]))]) [0] rfl
      have hD9 := hD.sub (ws' := [(o, .inr (11, [.ref m_tape, .ref m_text, .int m_taped, .int m_size, .int m_faultKind, .int m_faultPlace, .int m_at, .int m_end, .int tk, .int m_number, .long nm, .ref m_words, .ref m_errands, .ref m_alikes, .ref m_law, .ref m_worth, .ref m_times, .ref m_eWord, .ref m_eAfter, .ref m_sound, .ref m_isLaw, .ref m_wName, .int m_bank, .int m_rb, .ref m_follow, .ref m_lengths, .ref m_said, .int m_latest, .int m_talked, .int m_sum, .int m_doneSet, .int m_w, .ref m_more, .ref m_laidRow, .int m_laid, .ref m_piece, .ref m_far, .ref m_steps, .ref m_ends, .ref m_hPlace, .ref m_hWhat, .ref m_hValue, .ref m_hTold, .ref m_hUntold, .int m_sounds, .int m_time, .ref m_ways, .ref m_goesOn, .ref m_boxMany, .ref m_boxLatest, .ref m_boxSum, .ref m_boxW, .ref m_boxDone, .ref m_boxSaid]))]) [0] (by decide) rfl
      refine W.widen (k := 0) (n := 0) (Nat.le_of_ble_eq_true rfl) (Nat.le_of_ble_eq_true rfl) ?_
      exact W.zret (v := 0) hx hb hr (by decide) (fun tz htz hWz => ⟨⟨0, [(o, .inr (11, [.ref m_tape, .ref m_text, .int m_taped, .int m_size, .int m_faultKind, .int m_faultPlace, .int m_at, .int m_end, .int tk, .int m_number, .long nm, .ref m_words, .ref m_errands, .ref m_alikes, .ref m_law, .ref m_worth, .ref m_times, .ref m_eWord, .ref m_eAfter, .ref m_sound, .ref m_isLaw, .ref m_wName, .int m_bank, .int m_rb, .ref m_follow, .ref m_lengths, .ref m_said, .int m_latest, .int m_talked, .int m_sum, .int m_doneSet, .int m_w, .ref m_more, .ref m_laidRow, .int m_laid, .ref m_piece, .ref m_far, .ref m_steps, .ref m_ends, .ref m_hPlace, .ref m_hWhat, .ref m_hValue, .ref m_hTold, .ref m_hUntold, .int m_sounds, .int m_time, .ref m_ways, .ref m_goesOn, .ref m_boxMany, .ref m_boxLatest, .ref m_boxSum, .ref m_boxW, .ref m_boxDone, .ref m_boxSaid]))], rfl, ⟨rfl, (Or.inl rfl), (fun h => absurd h (by decide)), (fun _ _ => cmp_n c_2)⟩, by rw [htz]; exact hP9, va_K.moved hWz.alike hK, hD9⟩, hS.F htz⟩) hS.2.2 dX11_isWord_22
    · refine lv_iconst (v := 1) hx hb dX11_isWord_17 (by decide) ?_
      refine lv_goto (tgt := 22) hx hb dX11_isWord_18 (by decide) ?_
      have hP9 := hP.sub (ws' := [(o, .inr (11, [.ref m_tape, .ref m_text, .int m_taped, .int m_size, .int m_faultKind, .int m_faultPlace, .int m_at, .int m_end, .int tk, .int m_number, .long nm, .ref m_words, .ref m_errands, .ref m_alikes, .ref m_law, .ref m_worth, .ref m_times, .ref m_eWord, .ref m_eAfter, .ref m_sound, .ref m_isLaw, .ref m_wName, .int m_bank, .int m_rb, .ref m_follow, .ref m_lengths, .ref m_said, .int m_latest, .int m_talked, .int m_sum, .int m_doneSet, .int m_w, .ref m_more, .ref m_laidRow, .int m_laid, .ref m_piece, .ref m_far, .ref m_steps, .ref m_ends, .ref m_hPlace, .ref m_hWhat, .ref m_hValue, .ref m_hTold, .ref m_hUntold, .int m_sounds, .int m_time, .ref m_ways, .ref m_goesOn, .ref m_boxMany, .ref m_boxLatest, .ref m_boxSum, .ref m_boxW, .ref m_boxDone, .ref m_boxSaid]))]) [0] rfl
      have hD9 := hD.sub (ws' := [(o, .inr (11, [.ref m_tape, .ref m_text, .int m_taped, .int m_size, .int m_faultKind, .int m_faultPlace, .int m_at, .int m_end, .int tk, .int m_number, .long nm, .ref m_words, .ref m_errands, .ref m_alikes, .ref m_law, .ref m_worth, .ref m_times, .ref m_eWord, .ref m_eAfter, .ref m_sound, .ref m_isLaw, .ref m_wName, .int m_bank, .int m_rb, .ref m_follow, .ref m_lengths, .ref m_said, .int m_latest, .int m_talked, .int m_sum, .int m_doneSet, .int m_w, .ref m_more, .ref m_laidRow, .int m_laid, .ref m_piece, .ref m_far, .ref m_steps, .ref m_ends, .ref m_hPlace, .ref m_hWhat, .ref m_hValue, .ref m_hTold, .ref m_hUntold, .int m_sounds, .int m_time, .ref m_ways, .ref m_goesOn, .ref m_boxMany, .ref m_boxLatest, .ref m_boxSum, .ref m_boxW, .ref m_boxDone, .ref m_boxSaid]))]) [0] (by decide) rfl
      refine W.widen (k := 0) (n := 0) (Nat.le_of_ble_eq_true rfl) (Nat.le_of_ble_eq_true rfl) ?_
      exact W.zret (v := 1) hx hb hr (by decide) (fun tz htz hWz => ⟨⟨1, [(o, .inr (11, [.ref m_tape, .ref m_text, .int m_taped, .int m_size, .int m_faultKind, .int m_faultPlace, .int m_at, .int m_end, .int tk, .int m_number, .long nm, .ref m_words, .ref m_errands, .ref m_alikes, .ref m_law, .ref m_worth, .ref m_times, .ref m_eWord, .ref m_eAfter, .ref m_sound, .ref m_isLaw, .ref m_wName, .int m_bank, .int m_rb, .ref m_follow, .ref m_lengths, .ref m_said, .int m_latest, .int m_talked, .int m_sum, .int m_doneSet, .int m_w, .ref m_more, .ref m_laidRow, .int m_laid, .ref m_piece, .ref m_far, .ref m_steps, .ref m_ends, .ref m_hPlace, .ref m_hWhat, .ref m_hValue, .ref m_hTold, .ref m_hUntold, .int m_sounds, .int m_time, .ref m_ways, .ref m_goesOn, .ref m_boxMany, .ref m_boxLatest, .ref m_boxSum, .ref m_boxW, .ref m_boxDone, .ref m_boxSaid]))], rfl, ⟨rfl, (Or.inr rfl), (fun _ => ⟨c_1, cmp_0 c_2⟩), (fun h => absurd h (by decide))⟩, by rw [htz]; exact hP9, va_K.moved hWz.alike hK, hD9⟩, hS.F htz⟩) hS.2.2 dX11_isWord_22
