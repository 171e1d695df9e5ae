/-! bits of ints and longs (the family 'bt' began as a text of the kit's laws/BITS) -/
def bt (x : Int32) (i : Nat) : Bool := x.toBitVec.getLsbD i
theorem b_ext {x y : Int32} (h : ∀ i, i < 32 → bt x i = bt y i) : x = y := Int32.toBitVec_inj.mp (BitVec.eq_of_getLsbD_eq (fun i hi => h i hi))
theorem b_or (x y : Int32) (i : Nat) : bt (x ||| y) i = (bt x i || bt y i) := by unfold bt; rw [Int32.toBitVec_or, BitVec.getLsbD_or]
theorem b_and (x y : Int32) (i : Nat) : bt (x &&& y) i = (bt x i && bt y i) := by unfold bt; rw [Int32.toBitVec_and, BitVec.getLsbD_and]
theorem b_xor (x y : Int32) (i : Nat) : bt (x ^^^ y) i = (bt x i ^^ bt y i) := by unfold bt; rw [Int32.toBitVec_xor, BitVec.getLsbD_xor]
theorem b_big {x : Int32} {i : Nat} (h : 32 ≤ i) : bt x i = false := BitVec.getLsbD_of_ge _ _ h
theorem b_m1 : ∀ i, i < 32 → bt (-1) i = true := by decide +kernel
theorem b_0 (i : Nat) : bt 0 i = false := BitVec.getLsbD_zero
theorem s_l : ∀ n, n < 32 → ((nI n &&& 31).toBitVec.smod 32).toNat = n := by decide +kernel
theorem b_shl (n : Nat) (hn : n < 32) (x : Int32) {i : Nat} (hi : i < 32) : bt (x <<< (nI n &&& 31)) i = (decide (n ≤ i) && bt x (i - n)) := by
  unfold bt
  rw [Int32.toBitVec_shiftLeft]
  show (x.toBitVec <<< ((nI n &&& 31).toBitVec.smod 32).toNat).getLsbD i = _
  rw [s_l n hn, BitVec.getLsbD_shiftLeft]
  rcases Nat.lt_or_ge i n with h | h
  · simp [h, Nat.not_le.mpr h]
  · simp [hi, h, Nat.not_lt.mpr h]
theorem b_sshr (n : Nat) (hn : n < 32) (x : Int32) {i : Nat} (hi : i < 32) : bt (x >>> (nI n &&& 31)) i = if n + i < 32 then bt x (n + i) else bt x 31 := by
  unfold bt
  rw [Int32.toBitVec_shiftRight]
  show (x.toBitVec.sshiftRight ((nI n &&& 31).toBitVec.smod 32).toNat).getLsbD i = _
  rw [s_l n hn, BitVec.getLsbD_sshiftRight, BitVec.msb_eq_getLsbD_last]
  simp [hi]
theorem b_nI (n : Nat) {i : Nat} (hi : i < 32) : bt (nI n) i = n.testBit i := by
  show (BitVec.ofNat 32 n).getLsbD i = _
  rw [BitVec.getLsbD_ofNat]; simp [hi]
theorem b_1 {i : Nat} (hi : i < 32) : bt 1 i = decide (i = 0) := (by decide +kernel : ∀ i, i < 32 → bt 1 i = decide (i = 0)) i hi
theorem b_one (n : Nat) (hn : n < 32) {i : Nat} (hi : i < 32) : bt ((1 : Int32) <<< (nI n &&& 31)) i = decide (i = n) := by
  rw [b_shl n hn _ hi, b_1 (by omega)]
  rcases Nat.lt_trichotomy i n with h | h | h
  · simp [show ¬ n ≤ i by omega, show ¬ i = n by omega]
  · subst h; simp
  · simp [show ¬ i - n = 0 by omega, show ¬ i = n by omega]
def bl (x : Int64) (i : Nat) : Bool := x.toBitVec.getLsbD i
theorem l_ext {x y : Int64} (h : ∀ i, i < 64 → bl x i = bl y i) : x = y := Int64.toBitVec_inj.mp (BitVec.eq_of_getLsbD_eq (fun i hi => h i hi))
theorem l_or (x y : Int64) (i : Nat) : bl (x ||| y) i = (bl x i || bl y i) := by unfold bl; rw [Int64.toBitVec_or, BitVec.getLsbD_or]
theorem l_and (x y : Int64) (i : Nat) : bl (x &&& y) i = (bl x i && bl y i) := by unfold bl; rw [Int64.toBitVec_and, BitVec.getLsbD_and]
theorem l_xor (x y : Int64) (i : Nat) : bl (x ^^^ y) i = (bl x i ^^ bl y i) := by unfold bl; rw [Int64.toBitVec_xor, BitVec.getLsbD_xor]
theorem l_big {x : Int64} {i : Nat} (h : 64 ≤ i) : bl x i = false := BitVec.getLsbD_of_ge _ _ h
theorem l_0 (i : Nat) : bl 0 i = false := BitVec.getLsbD_zero
theorem l_m1 : ∀ i, i < 64 → bl (-1) i = true := by decide +kernel
theorem l_s : ∀ n, n < 64 → (((nI n).toInt64 &&& 63).toBitVec.smod 64).toNat = n := by decide +kernel
theorem l_shl (n : Nat) (hn : n < 64) (x : Int64) {i : Nat} (hi : i < 64) : bl (x <<< ((nI n).toInt64 &&& 63)) i = (decide (n ≤ i) && bl x (i - n)) := by
  unfold bl
  rw [Int64.toBitVec_shiftLeft]
  show (x.toBitVec <<< (((nI n).toInt64 &&& 63).toBitVec.smod 64).toNat).getLsbD i = _
  rw [l_s n hn, BitVec.getLsbD_shiftLeft]
  rcases Nat.lt_or_ge i n with h | h
  · simp [h, Nat.not_le.mpr h]
  · simp [hi, h, Nat.not_lt.mpr h]
theorem l_sshr (n : Nat) (hn : n < 64) (x : Int64) {i : Nat} (hi : i < 64) : bl (x >>> ((nI n).toInt64 &&& 63)) i = if n + i < 64 then bl x (n + i) else bl x 63 := by
  unfold bl
  rw [Int64.toBitVec_shiftRight]
  show (x.toBitVec.sshiftRight (((nI n).toInt64 &&& 63).toBitVec.smod 64).toNat).getLsbD i = _
  rw [l_s n hn, BitVec.getLsbD_sshiftRight, BitVec.msb_eq_getLsbD_last]
  simp [hi]
theorem l_of (x : Int32) {i : Nat} (hi : i < 64) : bl x.toInt64 i = if i < 32 then bt x i else bt x 31 := by
  unfold bl bt
  rw [Int32.toBitVec_toInt64, BitVec.getLsbD_signExtend, BitVec.msb_eq_getLsbD_last]
  simp [hi]
theorem b_of (x : Int64) {i : Nat} (hi : i < 32) : bt x.toInt32 i = bl x i := by
  unfold bl bt
  rw [Int64.toBitVec_toInt32, BitVec.getLsbD_signExtend]
  simp [hi, show i < 64 by omega]
theorem l_1 {i : Nat} (hi : i < 64) : bl 1 i = decide (i = 0) := (by decide +kernel : ∀ i, i < 64 → bl 1 i = decide (i = 0)) i hi
theorem l_36 {i : Nat} (hi : i < 64) : bl 68719476735 i = decide (i < 36) := (by decide +kernel : ∀ i, i < 64 → bl 68719476735 i = decide (i < 36)) i hi
theorem b_63 {i : Nat} (hi : i < 32) : bt 63 i = decide (i < 6) := (by decide +kernel : ∀ i, i < 32 → bt 63 i = decide (i < 6)) i hi
theorem b_4095 {i : Nat} (hi : i < 32) : bt 4095 i = decide (i < 12) := (by decide +kernel : ∀ i, i < 32 → bt 4095 i = decide (i < 12)) i hi
/-- one bit of a long: (x >> n) & 1 -/
theorem l_bit (n : Nat) (hn : n < 64) (x : Int64) : (x >>> ((nI n).toInt64 &&& 63)) &&& 1 = if bl x n then 1 else 0 := by
  apply l_ext
  intro i hi
  rw [l_and, l_1 hi, l_sshr n hn x hi]
  by_cases h : i = 0
  · subst h
    cases hb : bl x n <;> simp [hn, hb, l_0, l_1 (show 0 < 64 by omega)]
  · cases hb : bl x n <;> simp [h, l_0, l_1 hi]
theorem b_bit (n : Nat) (hn : n < 32) (x : Int32) : (x >>> (nI n &&& 31)) &&& 1 = if bt x n then 1 else 0 := by
  apply b_ext
  intro i hi
  rw [b_and, b_1 hi, b_sshr n hn x hi]
  by_cases h : i = 0
  · subst h
    cases hb : bt x n <;> simp [hn, hb, b_0, b_1 (show 0 < 32 by omega)]
  · cases hb : bt x n <;> simp [h, b_0, b_1 hi]
theorem l_ne {x y : Int64} : (lg_cmp x y = 0) ↔ x = y := lg_cmp_eq x y
/-- a loop by steps: a number that goes up to N, an invariant, an end -/
theorem jx_loop {σ ρ : Type} {step : σ → Option (σ ⊕ ρ)} (inv : Nat → σ → Prop) (post : ρ → Prop) (N : Nat) (h : ∀ i s, i ≤ N → inv i s → (∃ r, step s = some (.inr r) ∧ post r) ∨ (i < N ∧ ∃ s', step s = some (.inl s') ∧ inv (i + 1) s')) : ∀ (F i : Nat) (s : σ), N - i < F → i ≤ N → inv i s → ∃ r, jx_iter step F s = some r ∧ post r := by
  intro F
  induction F with
  | zero => intro i s h1; omega
  | succ F ih =>
    intro i s h1 h2 h3
    rcases h i s h2 h3 with ⟨r, e, hp⟩ | ⟨hl, s', e, hi⟩
    · exact ⟨r, by simp [jx_iter, e], hp⟩
    · obtain ⟨r, e2, hp⟩ := ih (i + 1) s' (by omega) hl hi
      exact ⟨r, by simp [jx_iter, e, e2], hp⟩
theorem jx_loop0 {σ ρ : Type} {step : σ → Option (σ ⊕ ρ)} (inv : Nat → σ → Prop) (post : ρ → Prop) (N : Nat) (hN : N < 4096) (s : σ) (h0 : inv 0 s) (h : ∀ i s, i ≤ N → inv i s → (∃ r, step s = some (.inr r) ∧ post r) ∨ (i < N ∧ ∃ s', step s = some (.inl s') ∧ inv (i + 1) s')) : ∃ r, jx_iter step jx_F s = some r ∧ post r :=
  jx_loop inv post N h jx_F 0 s (by unfold jx_F; omega) (Nat.zero_le _) h0
theorem jx_gt {b : Bool} (h : b = true) : jx_gd b = some () := by rw [h]; rfl
theorem jx_in_nI {k n : Nat} (h : k < n) (hn : n < 2 ^ 31) : jx_in (nI k) n = true := decide_eq_true (nI_in h hn)
