/-! small numbers, small methods -/
theorem k0 : (0 : Int32) = nI 0 := rfl
theorem k1 : (1 : Int32) = nI 1 := rfl
theorem k2 : (2 : Int32) = nI 2 := rfl
theorem k3 : (3 : Int32) = nI 3 := rfl
theorem k5 : (5 : Int32) = nI 5 := rfl
theorem k6 : (6 : Int32) = nI 6 := rfl
theorem k7 : (7 : Int32) = nI 7 := rfl
theorem k8 : (8 : Int32) = nI 8 := rfl
theorem k12 : (12 : Int32) = nI 12 := rfl
theorem k24 : (24 : Int32) = nI 24 := rfl
theorem k48 : (48 : Int32) = nI 48 := rfl
theorem k64 : (64 : Int32) = nI 64 := rfl
theorem k256 : (256 : Int32) = nI 256 := rfl
theorem jx_b {α β : Type} (a : α) (f : α → Option β) : (some a).bind f = f a := rfl
theorem jx_g {β : Type} (f : Unit → Option β) {b : Bool} (h : b = true) : (jx_gd b).bind f = f () := by rw [h]; rfl
theorem jx_gk {β : Type} {k n : Nat} (f : Unit → Option β) (h : k < n) (hn : n < 2 ^ 31) : (jx_gd (jx_in (nI k) n)).bind f = f () := jx_g f (jx_in_nI h hn)
theorem n1n0 : ¬ (1 : Int32) = 0 := by decide
theorem nm0 (n : Nat) (h : n < 2 ^ 31) : ¬ nI n = -1 := by
  intro e
  have h1 := nI_toInt h
  rw [e] at h1
  have h2 : (-1 : Int32).toInt = -1 := by decide
  omega
theorem nm1 : ¬ (-1 : Int32) = 0 := by decide
/-- x is outside of 0..n-1, or one of these -/
theorem ix (x : Int32) (n : Nat) (hn : n < 2 ^ 31) : (x < 0 ∨ nI n ≤ x) ∨ ∃ j : Nat, j < n ∧ x = nI j := by
  rcases pk_ix x hn with h | h | h
  · exact Or.inl (Or.inl h)
  · exact Or.inl (Or.inr h)
  · exact Or.inr h
def bi (b : Bool) : Int32 := if b then 1 else 0
theorem bi0 {α : Type} (b : Bool) (x y : α) : (if bi b = 0 then x else y) = if b = true then y else x := by cases b <;> rfl
theorem bin {α : Type} (b : Bool) (x y : α) : (if ¬ bi b = 0 then x else y) = if b = true then x else y := by cases b <;> rfl
theorem ff : ¬ false = true := by decide
theorem z_isSet (x : Int64) {n : Nat} (hn : n < 64) : pf_X6_isSet x (nI n) = some (bi (bl x n)) := by
  unfold pf_X6_isSet
  rw [l_bit n hn x]
  cases bl x n
  · decide
  · decide
theorem z_isSet32 (x : Int32) {n : Nat} (hn : n < 32) : pf_X6_isSet x.toInt64 (nI n) = some (bi (bt x n)) := by
  rw [z_isSet _ (by omega), l_of x (by omega), if_pos hn]
theorem z_has (x : Int32) {n : Nat} (hn : n < 32) : pf_X7_has x (nI n) = some (bi (bt x n)) := by
  unfold pf_X7_has
  rw [b_bit n hn x]
  cases bt x n
  · decide
  · decide
theorem z_xhas (x : Int32) {p : Nat} (hp : p < 8) : pf_X3_has x (nI p) = some (bi (bt x p)) := by
  unfold pf_X3_has
  rw [if_neg (nI_pos (by omega)), k8, if_neg (nI_ge (by omega) (by omega)), z_isSet32 x (by omega), jx_b]
  cases bt x p
  · decide
  · decide
theorem z_xhas_out (x : Int32) {y : Int32} (h : y < 0 ∨ nI 8 ≤ y) : pf_X3_has x y = some 0 := by
  unfold pf_X3_has
  by_cases h0 : y < 0
  · rw [if_pos h0]
  · rw [if_neg h0, k8, if_pos (h.resolve_left h0)]
theorem z_within {y : Int32} {a b n : Nat} (hn : n < 2 ^ 31) (hb : b < 2 ^ 31) (ha : a < 2 ^ 31) (h : y = nI n) : pf_X7_within y (nI a) (nI b) = some (bi (decide (a ≤ n ∧ n ≤ b))) := by
  subst h
  unfold pf_X7_within
  by_cases h1 : n < a
  · rw [if_pos (nI_lt h1 ha), decide_eq_false (by omega)]; rfl
  · rw [if_neg (nI_nlt (by omega) hn)]
    by_cases h2 : b < n
    · rw [if_pos (nI_lt h2 hn), decide_eq_false (by omega)]; rfl
    · rw [if_neg (nI_nlt (by omega) hb), decide_eq_true (by omega)]; rfl
theorem z_mhas (x : Int32) {p : Nat} (hp : p < 8) : pf_X7_isPart x (nI p) = some (bi (bt x p)) := by
  unfold pf_X7_isPart
  rw [k0, k7, z_within (n := p) (by omega) (by omega) (by omega) rfl, decide_eq_true (by omega), jx_b, ← k0, bi0, if_pos rfl, z_has x (by omega), jx_b]
  cases bt x p
  · decide
  · decide
theorem z_mhas_out (x : Int32) {y : Int32} (h : y < 0 ∨ nI 8 ≤ y) : pf_X7_isPart x y = some 0 := by
  unfold pf_X7_isPart pf_X7_within
  by_cases h0 : y < 0
  · rw [if_pos h0, jx_b, if_pos rfl]
  · rw [if_neg h0, if_pos, jx_b, if_pos rfl]
    have h1 := h.resolve_left h0
    rw [Int32.lt_iff_toInt_lt]
    rw [Int32.le_iff_toInt_le, nI_toInt (by omega)] at h1
    have h2 : (7 : Int32).toInt = 7 := by decide
    omega
/-- the greatest row that has the item -/
def gr (x : Int64) (i : Nat) : Nat := if bl x (24 + i) then 3 else if bl x (12 + i) then 2 else if bl x i then 1 else 0
theorem z_greatest (x : Int64) {i : Nat} (hi : i < 12) : pf_X4_greatest x (nI i) = some (nI (gr x i)) := by
  have key : ∀ k, k ≤ 2 → pf_X4_greatest_s1 x (nI i) (nI (k + 1)) = (if bl x (k * 12 + i) then some (.inr (.inr (nI (k + 1)))) else some (.inl (nI k))) := by
    intro k hk
    unfold pf_X4_greatest_s1
    rw [if_neg (by rw [k1, nI_ltI (by omega) (by omega)]; omega), nI_pred, k12, pk_mul, nI_add, z_isSet x (by omega), jx_b, pk_m1]
    cases bl x (k * 12 + i)
    · rfl
    · rfl
  have k0' : pf_X4_greatest_s1 x (nI i) (nI 0) = some (.inr (.inl ())) := by
    unfold pf_X4_greatest_s1
    rw [if_pos (by decide)]
  obtain ⟨r, e, h⟩ := jx_loop0 (step := pf_X4_greatest_s1 x (nI i)) (fun j s => s = nI (3 - j) ∧ ∀ k, 3 - j ≤ k → k ≤ 2 → bl x (k * 12 + i) = false) (fun r => (r = .inl () ∧ gr x i = 0) ∨ r = .inr (nI (gr x i))) 3 (by omega) 3 ⟨rfl, fun k h1 h2 => by omega⟩ (by
    rintro j s hj ⟨rfl, hb⟩
    rcases (show j = 0 ∨ j = 1 ∨ j = 2 ∨ j = 3 by omega) with rfl | rfl | rfl | rfl
    · rw [show 3 - 0 = 2 + 1 by rfl, key 2 (by omega)]
      cases hx : bl x (2 * 12 + i) with
      | true => exact Or.inl ⟨_, rfl, Or.inr (by rw [gr, show 24 + i = 2 * 12 + i by rfl, hx]; rfl)⟩
      | false => exact Or.inr ⟨by omega, _, rfl, rfl, fun k h1 h2 => by rw [show k = 2 by omega]; exact hx⟩
    · have e2 := hb 2 (by omega) (by omega)
      rw [show 3 - 1 = 1 + 1 by rfl, key 1 (by omega)]
      cases hx : bl x (1 * 12 + i) with
      | true => exact Or.inl ⟨_, rfl, Or.inr (by rw [gr, show 24 + i = 2 * 12 + i by rfl, show 12 + i = 1 * 12 + i by rfl, hx, e2]; rfl)⟩
      | false => exact Or.inr ⟨by omega, _, rfl, rfl, fun k h1 h2 => by rcases (show k = 1 ∨ k = 2 by omega) with rfl | rfl; exact hx; exact e2⟩
    · have e2 := hb 2 (by omega) (by omega)
      have e1 := hb 1 (by omega) (by omega)
      rw [show 3 - 2 = 0 + 1 by rfl, key 0 (by omega)]
      cases hx : bl x (0 * 12 + i) with
      | true => exact Or.inl ⟨_, rfl, Or.inr (by rw [gr, show 24 + i = 2 * 12 + i by rfl, show 12 + i = 1 * 12 + i by rfl, e1, e2, show bl x i = bl x (0 * 12 + i) by rw [Nat.zero_mul, Nat.zero_add], hx]; rfl)⟩
      | false => exact Or.inr ⟨by omega, _, rfl, rfl, fun k h1 h2 => by rcases (show k = 0 ∨ k = 1 ∨ k = 2 by omega) with rfl | rfl | rfl; exact hx; exact e1; exact e2⟩
    · have e2 := hb 2 (by omega) (by omega)
      have e1 := hb 1 (by omega) (by omega)
      have e0 := hb 0 (by omega) (by omega)
      rw [show 3 - 3 = 0 by rfl, k0']
      exact Or.inl ⟨_, rfl, Or.inl ⟨rfl, by rw [gr, show 24 + i = 2 * 12 + i by rfl, show 12 + i = 1 * 12 + i by rfl, e1, e2, show bl x i = bl x (0 * 12 + i) by rw [Nat.zero_mul, Nat.zero_add], e0]; rfl⟩⟩)
  unfold pf_X4_greatest
  rw [e, jx_b]
  rcases h with ⟨rfl, h⟩ | rfl
  · rw [h]; rfl
  · rfl
