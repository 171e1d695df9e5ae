/-! how many bits (the words wb_ began as a text of the kit's laws/BITS) -/
theorem wb_tb (n : Nat) : (lN n).toBitVec = BitVec.ofNat 64 n := rfl
theorem wb_inj {a b : Int64} (h : a.toBitVec = b.toBitVec) : a = b := Int64.toBitVec_inj.mp h
theorem wb_tn {n : Nat} (h : n < 2 ^ 64) : (lN n).toBitVec.toNat = n := by rw [wb_tb, BitVec.toNat_ofNat, Nat.mod_eq_of_lt h]
theorem wb_of (x : Int64) : ∃ n, n < 2 ^ 64 ∧ x = lN n := ⟨x.toBitVec.toNat, x.toBitVec.isLt, wb_inj (by rw [wb_tb]; simp)⟩
theorem wb_of32 (x : Int32) : ∃ n, n < 2 ^ 32 ∧ x = nI n := ⟨x.toBitVec.toNat, x.toBitVec.isLt, Int32.toBitVec_inj.mp (by show _ = BitVec.ofNat 32 _; simp)⟩
theorem wb_cu : ∀ k, k < 64 → ((nI k).toInt64.toUInt64 &&& Int64.toUInt64 63) = UInt64.ofNat k := by decide +kernel
theorem wb_shr {n k : Nat} (hn : n < 2 ^ 64) (hk : k < 64) : ((lN n).toUInt64 >>> ((nI k).toInt64.toUInt64 &&& Int64.toUInt64 63)).toInt64 = lN (n / 2 ^ k) := by
  rw [wb_cu k hk]
  apply wb_inj
  apply BitVec.eq_of_toNat_eq
  show ((lN n).toUInt64 >>> UInt64.ofNat k).toNat = (BitVec.ofNat 64 _).toNat
  have h1 : (UInt64.ofNat k).toNat = k := by
    show (BitVec.ofNat 64 k).toNat = k
    rw [BitVec.toNat_ofNat, Nat.mod_eq_of_lt (by omega)]
  have h2 : (lN n).toUInt64.toNat = n := wb_tn hn
  rw [UInt64.toNat_shiftRight, h1, h2, Nat.mod_eq_of_lt hk, Nat.shiftRight_eq_div_pow, BitVec.toNat_ofNat, Nat.mod_eq_of_lt (Nat.lt_of_le_of_lt (Nat.div_le_self _ _) hn)]
theorem wb_and {a b : Nat} (ha : a < 2 ^ 64) (hb : b < 2 ^ 64) : lN a &&& lN b = lN (a &&& b) := by
  apply wb_inj
  rw [Int64.toBitVec_and, wb_tb, wb_tb, wb_tb]
  apply BitVec.eq_of_toNat_eq
  rw [BitVec.toNat_and, BitVec.toNat_ofNat, BitVec.toNat_ofNat, BitVec.toNat_ofNat, Nat.mod_eq_of_lt ha, Nat.mod_eq_of_lt hb, Nat.mod_eq_of_lt (Nat.and_lt_two_pow _ hb)]
theorem cnt_congr {P Q : Nat → Bool} {n : Nat} (h : ∀ j, j < n → P j = Q j) : cnt P n = cnt Q n := by
  induction n with
  | zero => rfl
  | succ n ih => rw [cnt_S, cnt_S, ih (fun j hj => h j (by omega)), h n (by omega)]
theorem cnt_add (P : Nat → Bool) (n m : Nat) : cnt P (n + m) = cnt P n + cnt (fun j => P (n + j)) m := by
  induction m with
  | zero => rfl
  | succ m ih => rw [← Nat.add_assoc, cnt_S, cnt_S, ih]; omega
theorem fold_cnt (P : Nat → Bool) (n : Nat) : fold (fun i a => a + bi (P i)) n (0 : Int32) = nI (cnt P n) := by
  induction n with
  | zero => rfl
  | succ n ih =>
    show fold _ n 0 + bi (P n) = _
    rw [ih, cnt_S]
    cases P n
    · show nI (cnt P n) + 0 = _; rw [k0, nI_add]; rfl
    · show nI (cnt P n) + 1 = _; rw [nI_1]; rfl
theorem bc32 : ∀ s, s < 256 → pf_J6_bitCount_0f7a4 (nI s) = some (nI (cnt (fun j => s.testBit j) 8)) := by decide +kernel
theorem S8_nI {S : Int32} (h : S8 S) : ∃ s, s < 256 ∧ S = nI s := by
  obtain ⟨s, h1, h2⟩ := wb_of32 S
  refine ⟨s, Nat.lt_pow_two_of_testBit (n := 8) s (fun i hi => ?_), h2⟩
  rcases Nat.lt_or_ge i 32 with h3 | h3
  · rw [← b_nI s h3, ← h2]; exact h i hi
  · exact Nat.testBit_lt_two_pow (Nat.lt_of_lt_of_le h1 (Nat.pow_le_pow_right (by omega) h3))
theorem z_bc {S : Int32} (h : S8 S) : pf_J6_bitCount_0f7a4 S = some (nI (cnt (bt S) 8)) := by
  obtain ⟨s, h1, rfl⟩ := S8_nI h
  rw [bc32 s h1, cnt_congr (fun j hj => (b_nI s (show j < 32 by omega)).symm)]
theorem z_ones (x : Int32) : pf_X7_ones x = some (nI (cnt (bt x) 8)) := by
  unfold pf_X7_ones
  rw [jx_forA (step := pf_X7_ones_s1 x) (N := 8) (fun i a => a + bi (bt x i)) (by omega) (fun q a hq => ?_) (fun a => ?_), jx_b, fold_cnt]
  · unfold pf_X7_ones_s1
    dsimp only
    rw [k8, if_neg (nI_ge (by omega) (by omega)), b_bit q (by omega), nI_1]; rfl
  · unfold pf_X7_ones_s1
    dsimp only
    rw [k8, if_pos (nI_le (Nat.le_refl _) (by omega))]
/-! a long's bits, byte by byte -/
def mk (c : Nat) : Nat → Nat
  | 0 => 0
  | n + 1 => c + 256 * mk c n
theorem mk_S (c n : Nat) : mk c (n + 1) = c + 256 * mk c n := rfl
theorem and_byte {b c Y N : Nat} (hb : b < 256) (hc : c < 256) : (b + 256 * Y) &&& (c + 256 * N) = (b &&& c) + 256 * (Y &&& N) := by
  have h1 := Nat.div_add_mod ((b + 256 * Y) &&& (c + 256 * N)) (2 ^ 8)
  rw [Nat.and_div_two_pow, Nat.and_mod_two_pow, show (b + 256 * Y) / 2 ^ 8 = Y by omega, show (c + 256 * N) / 2 ^ 8 = N by omega, show (b + 256 * Y) % 2 ^ 8 = b by omega, show (c + 256 * N) % 2 ^ 8 = c by omega] at h1
  omega
def f1 (b : Nat) : Nat := b - ((b / 2) &&& 85)
def f2 (b : Nat) : Nat := (b &&& 51) + ((b / 4) &&& 51)
def f3 (b : Nat) : Nat := (b + b / 16) &&& 15
def s1 (n X : Nat) : Nat := X - ((X / 2) &&& mk 85 n)
def s2 (n X : Nat) : Nat := (X &&& mk 51 n) + ((X / 4) &&& mk 51 n)
def s3 (n X : Nat) : Nat := (X + X / 16) &&& mk 15 n
theorem e1 : ∀ b, b < 256 → ∀ c, c < 2 → (b / 2 + 128 * c) &&& 85 = (b / 2) &&& 85 := by decide +kernel
theorem e2 : ∀ b, b < 256 → ∀ c, c < 4 → (b / 4 + 64 * c) &&& 51 = (b / 4) &&& 51 := by decide +kernel
theorem s1_step {b Y : Nat} (n : Nat) (hb : b < 256) : s1 (n + 1) (b + 256 * Y) = f1 b + 256 * s1 n Y := by
  unfold s1 f1
  rw [mk_S, show (b + 256 * Y) / 2 = (b / 2 + 128 * (Y % 2)) + 256 * (Y / 2) by omega, and_byte (by omega) (by omega), e1 b hb _ (by omega)]
  have h1 : (b / 2) &&& 85 ≤ b / 2 := Nat.and_le_left
  have h2 : (Y / 2) &&& mk 85 n ≤ Y / 2 := Nat.and_le_left
  omega
theorem s2_step {b Y : Nat} (n : Nat) (hb : b < 256) : s2 (n + 1) (b + 256 * Y) = f2 b + 256 * s2 n Y := by
  unfold s2 f2
  rw [mk_S, show (b + 256 * Y) / 4 = (b / 4 + 64 * (Y % 4)) + 256 * (Y / 4) by omega, and_byte hb (by omega), and_byte (by omega) (by omega), e2 b hb _ (by omega)]
  omega
theorem s3_step {b Y : Nat} (n : Nat) (h1 : b / 16 ≤ 4) (h2 : Y % 16 ≤ 4) : s3 (n + 1) (b + 256 * Y) = f3 b + 256 * s3 n Y := by
  have e15 : ∀ z : Nat, z &&& 15 = z % 16 := fun z => by rw [show (15 : Nat) = 2 ^ 4 - 1 from rfl, Nat.and_two_pow_sub_one_eq_mod]
  unfold s3 f3
  rw [mk_S, show (b + 256 * Y) + (b + 256 * Y) / 16 = (b + b / 16 + 16 * (Y % 16)) + 256 * (Y + Y / 16) by omega, and_byte (by omega) (by omega), e15, e15]
  congr 1
  omega
theorem f12 : ∀ b, b < 256 → f1 b < 256 ∧ f2 (f1 b) / 16 ≤ 4 ∧ f2 (f1 b) % 16 ≤ 4 ∧ f3 (f2 (f1 b)) = cnt (fun j => b.testBit j) 8 := by decide +kernel
def T (n X : Nat) : Nat := s3 n (s2 n (s1 n X))
theorem nib (n Y : Nat) : s2 n (s1 n Y) % 16 ≤ 4 := by
  cases n with
  | zero => unfold s2 mk; rw [Nat.and_zero, Nat.and_zero]; decide
  | succ n =>
    have h := f12 (Y % 256) (by omega)
    rw [show Y = Y % 256 + 256 * (Y / 256) by omega, s1_step n (by omega), s2_step n h.1]
    have := h.2.2.1
    omega
theorem T_step (n X : Nat) : T (n + 1) X = cnt (fun j => (X % 256).testBit j) 8 + 256 * T n (X / 256) := by
  have h := f12 (X % 256) (by omega)
  unfold T
  have e : s1 (n + 1) X = f1 (X % 256) + 256 * s1 n (X / 256) := by
    have := s1_step (b := X % 256) (Y := X / 256) n (by omega)
    rw [show X % 256 + 256 * (X / 256) = X by omega] at this; exact this
  rw [e, s2_step n h.1, s3_step n h.2.1 (nib n _), h.2.2.2]
theorem T_0 (X : Nat) : T 0 X = 0 := by unfold T s3 mk; rw [Nat.and_zero]
def by8 (X k : Nat) : Nat := cnt (fun j => X.testBit (8 * k + j)) 8
theorem by8_eq (X k : Nat) : cnt (fun j => (X / 2 ^ (8 * k) % 256).testBit j) 8 = by8 X k := by
  unfold by8
  refine cnt_congr (fun j hj => ?_)
  rw [show (256 : Nat) = 2 ^ 8 from rfl, Nat.testBit_mod_two_pow, Nat.testBit_div_two_pow, decide_eq_true hj, Bool.true_and, Nat.add_comm]
set_option maxHeartbeats 400000 in
theorem T_8 (X : Nat) : T 8 X = by8 X 0 + 256 * (by8 X 1 + 256 * (by8 X 2 + 256 * (by8 X 3 + 256 * (by8 X 4 + 256 * (by8 X 5 + 256 * (by8 X 6 + 256 * by8 X 7)))))) := by
  rw [T_step, T_step, T_step, T_step, T_step, T_step, T_step, T_step, T_0]
  rw [← by8_eq X 0, ← by8_eq X 1, ← by8_eq X 2, ← by8_eq X 3, ← by8_eq X 4, ← by8_eq X 5, ← by8_eq X 6, ← by8_eq X 7]
  rw [show X / 256 / 256 / 256 / 256 / 256 / 256 / 256 = X / 2 ^ (8 * 7) by omega, show X / 256 / 256 / 256 / 256 / 256 / 256 = X / 2 ^ (8 * 6) by omega, show X / 256 / 256 / 256 / 256 / 256 = X / 2 ^ (8 * 5) by omega, show X / 256 / 256 / 256 / 256 = X / 2 ^ (8 * 4) by omega, show X / 256 / 256 / 256 = X / 2 ^ (8 * 3) by omega, show X / 256 / 256 = X / 2 ^ (8 * 2) by omega, show X / 256 = X / 2 ^ (8 * 1) by omega, show cnt (fun j => (X % 256).testBit j) 8 = cnt (fun j => (X / 2 ^ (8 * 0) % 256).testBit j) 8 by rw [Nat.mul_zero, Nat.pow_zero, Nat.div_one]]
  omega
theorem by8_sum (X : Nat) : cnt (fun j => X.testBit j) 64 = by8 X 0 + by8 X 1 + by8 X 2 + by8 X 3 + by8 X 4 + by8 X 5 + by8 X 6 + by8 X 7 := by
  rw [show 64 = 56 + 8 from rfl, cnt_add, show 56 = 48 + 8 from rfl, cnt_add, show 48 = 40 + 8 from rfl, cnt_add, show 40 = 32 + 8 from rfl, cnt_add, show 32 = 24 + 8 from rfl, cnt_add, show 24 = 16 + 8 from rfl, cnt_add, show 16 = 8 + 8 from rfl, cnt_add]
  unfold by8
  simp only [Nat.mul_zero, Nat.zero_add]
theorem d256 {a b : Nat} (h : a < 256) : (a + 256 * b) / 256 = b := by omega
set_option maxHeartbeats 400000 in
theorem sum8 {y y0 y1 y2 y3 y4 y5 y6 y7 : Nat} (h0 : y0 ≤ 8) (h1 : y1 ≤ 8) (h2 : y2 ≤ 8) (h3 : y3 ≤ 8) (h4 : y4 ≤ 8) (h5 : y5 ≤ 8) (h6 : y6 ≤ 8) (h7 : y7 ≤ 8) (hy : y = y0 + 256 * (y1 + 256 * (y2 + 256 * (y3 + 256 * (y4 + 256 * (y5 + 256 * (y6 + 256 * y7))))))) : y < 2 ^ 61 ∧ (((y + y / 256) + (y + y / 256) / 65536) + ((y + y / 256) + (y + y / 256) / 65536) / 4294967296) % 128 = y0 + y1 + y2 + y3 + y4 + y5 + y6 + y7 := by
  obtain ⟨R6, r6⟩ : ∃ z, z = y6 + 256 * y7 := ⟨_, rfl⟩
  obtain ⟨R5, r5⟩ : ∃ z, z = y5 + 256 * R6 := ⟨_, rfl⟩
  obtain ⟨R4, r4⟩ : ∃ z, z = y4 + 256 * R5 := ⟨_, rfl⟩
  obtain ⟨R3, r3⟩ : ∃ z, z = y3 + 256 * R4 := ⟨_, rfl⟩
  obtain ⟨R2, r2⟩ : ∃ z, z = y2 + 256 * R3 := ⟨_, rfl⟩
  obtain ⟨R1, r1⟩ : ∃ z, z = y1 + 256 * R2 := ⟨_, rfl⟩
  rw [← r6, ← r5, ← r4, ← r3, ← r2, ← r1] at hy
  have b6 : R6 ≤ 2056 := by omega
  have b5 : R5 ≤ 526344 := by omega
  have b4 : R4 ≤ 134744072 := by omega
  have b3 : R3 ≤ 34494482440 := by omega
  have b2 : R2 ≤ 8830587504648 := by omega
  have b1 : R1 ≤ 2260630401189896 := by omega
  have bz : y < 2 ^ 61 := by rw [show (2 : Nat) ^ 61 = 2305843009213693952 from rfl]; omega
  refine ⟨bz, ?_⟩
  have a1 : y / 256 = R1 := by rw [hy]; exact d256 (by omega)
  rw [a1]
  -- Z_k = R_k + R_(k+1)
  have z0 : y + R1 = (y0 + y1) + 256 * (R1 + R2) := by omega
  have z1 : R1 + R2 = (y1 + y2) + 256 * (R2 + R3) := by omega
  have z2 : R2 + R3 = (y2 + y3) + 256 * (R3 + R4) := by omega
  have z3 : R3 + R4 = (y3 + y4) + 256 * (R4 + R5) := by omega
  have z4 : R4 + R5 = (y4 + y5) + 256 * (R5 + R6) := by omega
  have z5 : R5 + R6 = (y5 + y6) + 256 * (R6 + y7) := by omega
  have z6 : R6 + y7 = (y6 + y7) + 256 * y7 := by omega
  have a2 : (y + R1) / 65536 = R2 + R3 := by
    rw [show (65536 : Nat) = 256 * 256 from rfl, ← Nat.div_div_eq_div_mul, z0, d256 (by omega), z1, d256 (by omega)]
  rw [a2]
  have w0 : (y + R1) + (R2 + R3) = (y0 + y1 + y2 + y3) + 256 * ((R1 + R2) + (R3 + R4)) := by omega
  have w1 : (R1 + R2) + (R3 + R4) = (y1 + y2 + y3 + y4) + 256 * ((R2 + R3) + (R4 + R5)) := by omega
  have w2 : (R2 + R3) + (R4 + R5) = (y2 + y3 + y4 + y5) + 256 * ((R3 + R4) + (R5 + R6)) := by omega
  have w3 : (R3 + R4) + (R5 + R6) = (y3 + y4 + y5 + y6) + 256 * ((R4 + R5) + (R6 + y7)) := by omega
  have w4 : (R4 + R5) + (R6 + y7) = (y4 + y5 + y6 + y7) + 256 * ((R5 + R6) + y7) := by omega
  have a3 : ((y + R1) + (R2 + R3)) / 4294967296 = (R4 + R5) + (R6 + y7) := by
    rw [show (4294967296 : Nat) = 256 * 256 * 256 * 256 from rfl, ← Nat.div_div_eq_div_mul, ← Nat.div_div_eq_div_mul, ← Nat.div_div_eq_div_mul, w0, d256 (by omega), w1, d256 (by omega), w2, d256 (by omega), w3, d256 (by omega)]
  rw [a3, w0, w4]
  generalize R1 + R2 + (R3 + R4) = A
  generalize R5 + R6 + y7 = B
  clear w0 w1 w2 w3 w4 a1 a2 a3 z0 z1 z2 z3 z4 z5 z6 r1 r2 r3 r4 r5 r6 b1 b2 b3 b4 b5 b6 bz hy
  omega
theorem by8_le (X k : Nat) : by8 X k ≤ 8 := cnt_le _ _
set_option maxHeartbeats 400000 in
theorem z_bc64 (x : Int64) : pf_J13_bitCount_95d88 x = some (nI (cnt (bl x) 64)) := by
  obtain ⟨X, hX, rfl⟩ := wb_of x
  have hb : cnt (bl (lN X)) 64 = cnt (fun j => X.testBit j) 64 := cnt_congr (fun j hj => by
    show (BitVec.ofNat 64 X).getLsbD j = _
    rw [BitVec.getLsbD_ofNat, decide_eq_true hj, Bool.true_and])
  have hs := sum8 (by8_le X 0) (by8_le X 1) (by8_le X 2) (by8_le X 3) (by8_le X 4) (by8_le X 5) (by8_le X 6) (by8_le X 7) (T_8 X)
  obtain ⟨q1, q3⟩ := hs
  have m1 : (6148914691236517205 : Int64) = lN (mk 85 8) := by decide +kernel
  have m2 : (3689348814741910323 : Int64) = lN (mk 51 8) := by decide +kernel
  have m3 : (1085102592571150095 : Int64) = lN (mk 15 8) := by decide +kernel
  have n1 : mk 85 8 < 2 ^ 64 := by decide
  have n2 : mk 51 8 < 2 ^ 62 := by decide
  have n3 : mk 15 8 < 2 ^ 64 := by decide
  have c1 : s1 8 X < 2 ^ 64 := Nat.lt_of_le_of_lt (Nat.sub_le _ _) hX
  have c2 : s2 8 (s1 8 X) < 2 ^ 63 := by
    have g1 : s1 8 X &&& mk 51 8 ≤ mk 51 8 := Nat.and_le_right
    have g2 : (s1 8 X) / 4 &&& mk 51 8 ≤ mk 51 8 := Nat.and_le_right
    unfold s2
    omega
  unfold pf_J13_bitCount_95d88
  rw [k1, k2, show (4 : Int32) = nI 4 from rfl, k8, show (16 : Int32) = nI 16 from rfl, show (32 : Int32) = nI 32 from rfl, m1, m2, m3]
  rw [wb_shr hX (by omega), wb_and (by omega) n1, lN_sub (Nat.le_trans Nat.and_le_left (Nat.div_le_self _ _)), jx_b]
  rw [show X - (X / 2 ^ 1 &&& mk 85 8) = s1 8 X from rfl, wb_shr c1 (by omega), wb_and c1 (by omega), wb_and (Nat.lt_of_le_of_lt (Nat.div_le_self _ _) c1) (by omega), lN_add, jx_b]
  rw [show (s1 8 X &&& mk 51 8) + (s1 8 X / 2 ^ 2 &&& mk 51 8) = s2 8 (s1 8 X) from rfl, wb_shr (by omega) (by omega), lN_add, wb_and (by omega) n3, jx_b]
  rw [show (s2 8 (s1 8 X) + s2 8 (s1 8 X) / 2 ^ 4) &&& mk 15 8 = T 8 X from rfl]
  generalize T 8 X = y at *
  have p61 : (2 : Nat) ^ 61 = 2305843009213693952 := rfl
  have p64 : (2 : Nat) ^ 64 = 18446744073709551616 := rfl
  have y1 : y + y / 2 ^ 8 < 2 ^ 62 := by
    have := Nat.div_le_self y (2 ^ 8)
    rw [show (2 : Nat) ^ 62 = 4611686018427387904 from rfl]; omega
  have y2 : y + y / 2 ^ 8 + (y + y / 2 ^ 8) / 2 ^ 16 < 2 ^ 63 := by
    have := Nat.div_le_self (y + y / 2 ^ 8) (2 ^ 16)
    rw [show (2 : Nat) ^ 62 = 4611686018427387904 from rfl] at y1
    rw [show (2 : Nat) ^ 63 = 9223372036854775808 from rfl]; omega
  rw [wb_shr (Nat.lt_trans q1 (by decide)) (by omega), lN_add, wb_shr (Nat.lt_trans y1 (by decide)) (by omega), lN_add, jx_b, wb_shr (Nat.lt_trans y2 (by decide)) (by omega), lN_add, lN_i]
  rw [pk_and _ (m := 127) 7 (by decide), hb, by8_sum, ← q3]
  show some (nI ((_ % 2 ^ 32) % 2 ^ 7)) = _
  congr 2
  rw [show (2 : Nat) ^ 8 = 256 from rfl, show (2 : Nat) ^ 16 = 65536 from rfl, show (2 : Nat) ^ 32 = 4294967296 from rfl, show (2 : Nat) ^ 7 = 128 from rfl]
  exact Nat.mod_mod_of_dvd _ ⟨33554432, rfl⟩
