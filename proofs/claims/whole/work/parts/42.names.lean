/-! names and joins, on both sides -/
def KX (ki : Nat → Int32) (kd : Nat → Nat → Nat) : Prop := ∀ p q, p < 8 → q < 8 → ki (p * 8 + q) = nI (kd p q) - 1 ∧ kd p q ≤ 4
def KS (S : Int32) (kd : Nat → Nat → Nat) : Prop := ∀ p q, p < 8 → q < 8 → kd p q ≠ 0 → bt S p = true ∧ bt S q = true
def eN (S : Int32) (kd : Nat → Nat → Nat) (q p : Nat) : Bool := eE S kd 2 p q
def sN (a : Nat) (q : Nat) : Bool := decide (q = a)
theorem kd_lt {d k : Nat} (h : d ≤ 4) (hk : k ≤ 4) : (nI k < nI d - 1) ↔ k + 1 < d := (by decide : ∀ d, d < 5 → ∀ k, k < 5 → ((nI k < nI d - 1) ↔ k + 1 < d)) d (by omega) k (by omega)
theorem z_kindOf {ki : Nat → Int32} {kd : Nat → Nat → Nat} (h : KX ki kd) {p q : Nat} (hp : p < 8) (hq : q < 8) : pf_X3_kindOf ki (nI p) (nI q) = some (nI (kd p q) - 1) := by
  unfold pf_X3_kindOf
  rw [k8, pk_mul, nI_add, jx_gk _ (by omega) (by omega), nI_clamp (by omega), (h p q hp hq).1]
/-- a set built by ors, bit by bit -/
theorem bit_step {y : Int32} {n j c : Nat} {f : Bool} (hj : j < 32) (hc : c < 32) : bt (y ||| (if f = true then (1 : Int32) <<< (nI c &&& 31) else 0)) j = (bt y j || (decide (j = c) && f)) := by
  rw [b_or]
  cases f
  · rw [if_neg ff, b_0, Bool.and_false]
  · rw [if_pos rfl, b_one c hc hj, Bool.and_true]
section NM
variable {S : Int32} {kd : Nat → Nat → Nat} {ki : Nat → Int32}
theorem z_namedBy (h : KX ki kd) (hS : KS S kd) {p : Nat} (hp : p < 8) : ∃ r, pf_X3_namedBy ki (nI p) = some r ∧ ∀ j, j < 32 → bt r j = (decide (j < 8) && eN S kd j p) := by
  obtain ⟨r, e, hr⟩ := jx_loop0 (step := pf_X3_namedBy_s1 ki (nI p)) (fun n s => s.2 = nI n ∧ ∀ j, j < 32 → bt s.1 j = (decide (j < n) && eN S kd j p)) (fun r => ∀ j, j < 32 → bt r j = (decide (j < 8) && eN S kd j p)) 8 (by omega) ((0 : Int32), (0 : Int32)) ⟨rfl, fun j _ => by rw [b_0, decide_eq_false (by omega)]; rfl⟩ (by
    rintro n ⟨y, z⟩ hn ⟨rfl, hb⟩
    dsimp only at hb
    unfold pf_X3_namedBy_s1
    dsimp only
    by_cases h8 : 8 ≤ n
    · rw [k8, if_pos (nI_le h8 (by omega))]
      have : n = 8 := by omega
      subst this
      exact Or.inl ⟨_, rfl, hb⟩
    · rw [k8, if_neg (nI_ge (by omega) (by omega)), z_kindOf h hp (by omega), jx_b]
      right
      refine ⟨by omega, (y ||| (if eN S kd n p = true then (1 : Int32) <<< (nI n &&& 31) else 0), nI (n + 1)), ?_, rfl, fun j hj => ?_⟩
      · have g2 := (h p n hp (by omega)).2
        unfold eN eE
        by_cases hz : kd p n = 0
        · rw [if_pos ((kd_m1 g2).mpr hz), jx_b, nI_1, decide_eq_false (fun hh => hh hz)]; simp
        · obtain ⟨s1, s2⟩ := hS p n hp (by omega) hz
          rw [if_neg (fun hh => hz ((kd_m1 g2).mp hh)), s1, s2, decide_eq_true hz]
          by_cases hl : kd p n ≤ 2
          · rw [if_neg (show ¬ (1 : Int32) < nI (kd p n) - 1 from fun hh => by have := (kd_lt (k := 1) g2 (by omega)).mp hh; omega), jx_b, nI_1, decide_eq_true hl]; rfl
          · rw [if_pos (show (1 : Int32) < nI (kd p n) - 1 from (kd_lt (k := 1) g2 (by omega)).mpr (by omega)), jx_b, nI_1, decide_eq_false hl]; rfl
      · dsimp only
        rw [bit_step (n := n) hj (by omega), hb j hj]
        by_cases hjn : j = n
        · subst hjn; simp
        · have e1 : decide (j < n + 1) = decide (j < n) := by
            by_cases h1 : j < n
            · rw [decide_eq_true h1, decide_eq_true (by omega)]
            · rw [decide_eq_false h1, decide_eq_false (by omega)]
          rw [e1, decide_eq_false hjn]; simp)
  exact ⟨r, by unfold pf_X3_namedBy; rw [e, jx_b], hr⟩
theorem eN_lt (h8 : S8 S) {p q : Nat} (h : eN S kd q p = true) : q < 8 ∧ p < 8 := ⟨S8_lt h8 (eE_S h).2.1, S8_lt h8 (eE_S h).1⟩
theorem z_namesX (h8 : S8 S) (h : KX ki kd) (hS : KS S kd) {a : Nat} (ha : a < 8) : ∃ r, pf_X3_namesOf ki (nI a) = some r ∧ ∀ j, j < 32 → bt r j = (cl (eN S kd) (sN a) j && !decide (j = a)) := by
  have inner : ∀ (N0 : Int32) (n : Nat), (∀ j, j < 32 → bt N0 j = true → cl (eN S kd) (sN a) j = true) → (∀ j, j < 8 → rch (eN S kd) (sN a) n j = true → bt N0 j = true) → ∃ r, jx_iter (pf_X3_namesOf_s2 ki) jx_F (N0, (0 : Int32)) = some r ∧ (∀ j, j < 32 → bt r j = true → cl (eN S kd) (sN a) j = true) ∧ (∀ j, j < 8 → rch (eN S kd) (sN a) (n + 1) j = true → bt r j = true) := by
    intro N0 n hs0 hc0
    obtain ⟨r, e, r1, r2, r3⟩ := jx_loop0 (step := pf_X3_namesOf_s2 ki) (fun i s => s.2 = nI i ∧ (∀ j, j < 32 → bt s.1 j = true → cl (eN S kd) (sN a) j = true) ∧ (∀ j, j < 32 → bt N0 j = true → bt s.1 j = true) ∧ ∀ p, p < i → bt N0 p = true → ∀ q, q < 8 → eN S kd q p = true → bt s.1 q = true) (fun r => (∀ j, j < 32 → bt r j = true → cl (eN S kd) (sN a) j = true) ∧ (∀ j, j < 32 → bt N0 j = true → bt r j = true) ∧ ∀ p, p < 8 → bt N0 p = true → ∀ q, q < 8 → eN S kd q p = true → bt r q = true) 8 (by omega) (N0, (0 : Int32)) ⟨rfl, hs0, fun j _ hj => hj, fun p hp => by omega⟩ (by
      rintro i ⟨y, z⟩ hi ⟨rfl, hs, hg, hd⟩
      dsimp only at hs hg hd
      unfold pf_X3_namesOf_s2
      dsimp only
      by_cases h8' : 8 ≤ i
      · rw [k8, if_pos (nI_le h8' (by omega))]
        have : i = 8 := by omega
        subst this
        exact Or.inl ⟨_, rfl, hs, hg, hd⟩
      · rw [k8, if_neg (nI_ge (by omega) (by omega)), z_isSet32 y (by omega), jx_b, bi0]
        obtain ⟨nb, en, hn⟩ := z_namedBy h hS (p := i) (by omega)
        right
        refine ⟨by omega, (y ||| (if bt y i = true then nb else 0), nI (i + 1)), ?_, rfl, ?_, ?_, ?_⟩
        · cases bt y i
          · rw [if_neg ff, jx_b, nI_1, if_neg ff]
          · rw [if_pos rfl, en, jx_b, jx_b, nI_1, if_pos rfl]
        · intro j hj hb
          dsimp only at hb
          rw [b_or, Bool.or_eq_true] at hb
          rcases hb with hb | hb
          · exact hs j hj hb
          · cases hy : bt y i with
            | false => rw [hy, if_neg ff, b_0] at hb; cases hb
            | true =>
              rw [hy, if_pos rfl, hn j hj, Bool.and_eq_true, decide_eq_true_eq] at hb
              exact cl_E hb.1 (by omega) hb.2 (hs i (by omega) hy)
        · intro j hj hb
          dsimp only
          rw [b_or, hg j hj hb]; rfl
        · intro p hp hb q hq hE
          dsimp only
          rw [b_or]
          by_cases hpi : p = i
          · subst hpi
            rw [if_pos (hg p (by omega) hb), hn q (by omega), decide_eq_true hq, hE]; simp
          · rw [hd p (by omega) hb q hq hE]; rfl)
    refine ⟨r, e, r1, fun j hj hr => ?_⟩
    rcases rch_S.mp hr with hh | ⟨q, hq, hE, hh⟩
    · exact r2 j (by omega) (hc0 j hj hh)
    · exact r3 q hq (hc0 q hq hh) j hj hE
  obtain ⟨r, e, r1, r2⟩ := jx_loop0 (step := pf_X3_namesOf_s1 ki) (fun i s => s.2 = nI i ∧ (∀ j, j < 32 → bt s.1 j = true → cl (eN S kd) (sN a) j = true) ∧ ∀ j, j < 8 → rch (eN S kd) (sN a) i j = true → bt s.1 j = true) (fun r => (∀ j, j < 32 → bt r j = true → cl (eN S kd) (sN a) j = true) ∧ ∀ j, j < 8 → cl (eN S kd) (sN a) j = true → bt r j = true) 8 (by omega) ((1 : Int32) <<< (nI a &&& 31), (0 : Int32)) ⟨rfl, fun j hj hb => by
      dsimp only at hb
      rw [b_one a (by omega) hj] at hb
      exact cl_src hb, fun j hj hr => by
      dsimp only
      rw [b_one a (by omega) (by omega)]
      exact hr⟩ (by
    rintro i ⟨y, z⟩ hi ⟨rfl, hs, hc⟩
    dsimp only at hs hc
    unfold pf_X3_namesOf_s1
    dsimp only
    by_cases h8' : 8 ≤ i
    · rw [k8, if_pos (nI_le h8' (by omega))]
      exact Or.inl ⟨_, rfl, hs, fun j hj hr => hc j hj (rch_up (by omega) hr)⟩
    · obtain ⟨r, e, r1, r2⟩ := inner y i hs hc
      rw [k8, if_neg (nI_ge (by omega) (by omega)), e, jx_b, nI_1]
      exact Or.inr ⟨by omega, _, rfl, rfl, r1, r2⟩)
  refine ⟨_, by unfold pf_X3_namesOf; rw [e, jx_b], fun j hj => ?_⟩
  rw [b_and, b_xor, b_one a (by omega) hj, b_m1 j hj]
  have hh : bt r j = cl (eN S kd) (sN a) j := by
    refine b_iff ⟨r1 j hj, fun hc => ?_⟩
    refine r2 j ?_ hc
    refine cl_sub (X := fun j => j < 8) (fun p hp => ?_) (fun p q _ hE _ => (eN_lt h8 hE).1) hc
    unfold sN at hp
    rw [decide_eq_true_eq] at hp
    omega
  rw [hh]
  cases decide (j = a) <;> rfl
end NM
