/-! count: alike -/
section CN
variable {S : Int32} {o kd : Nat → Nat → Nat} {ki nr ns nk : Nat → Int32}
def anyC (S : Int32) (o kd : Nat → Nat → Nat) (p : Nat) : Bool := (List.range 6).any (fun a => clsh S o kd p a)
theorem b_zero {x : Int32} (h : ∀ i, i < 32 → bt x i = false) : x = 0 := b_ext (fun i hi => by rw [h i hi, b_0])
theorem z_partsNow {cm : Nat → Int64} (h : MO S o kd nr ns nk) (hc : come S o kd cm) : pf_X1_partsNow cm = some (nI (cnt (anyC S o kd) 8)) := by
  unfold pf_X1_partsNow
  rw [jx_forA (step := pf_X1_partsNow_s1 cm) (N := 8) (fun i a => a + bi (anyC S o kd i)) (by omega) (fun q a hq => ?_) (fun a => ?_), jx_b, fold_cnt]
  · obtain ⟨r, e, hr⟩ := z_meeting hc h.1 hq h.oOK
    unfold pf_X1_partsNow_s1
    dsimp only
    rw [k8, if_neg (nI_ge (by omega) (by omega)), jx_gk _ hq (by omega), nI_clamp (by omega), e, jx_b, nI_1]
    cases hq2 : anyC S o kd q with
    | false =>
      have : r = 0 := b_zero (fun i hi => by
        rw [hr i hi]
        by_cases h6 : i < 6
        · rw [decide_eq_true h6, Bool.true_and]
          cases hcl : clsh S o kd q i with
          | false => rfl
          | true =>
            have : anyC S o kd q = true := List.any_eq_true.mpr ⟨i, List.mem_range.mpr h6, hcl⟩
            rw [hq2] at this; cases this
        · rw [decide_eq_false h6]; rfl)
      rw [if_pos this, jx_b]; rfl
    | true =>
      obtain ⟨i, hi, hcl⟩ := List.any_eq_true.mp hq2
      have hi := List.mem_range.mp hi
      have : ¬ r = 0 := fun hz => by
        have := hr i (by omega)
        rw [hz, b_0, decide_eq_true hi, hcl] at this; cases this
      rw [if_neg this, jx_b]; rfl
  · unfold pf_X1_partsNow_s1
    dsimp only
    rw [k8, if_pos (nI_le (Nat.le_refl _) (by omega))]
theorem z_clashMany (h : MO S o kd nr ns nk) (nc : Int32) (ng : Nat → Int32) (y : Int32) : ∃ r, pf_X7_clashMany nr S ns nk nc ng y = some r ∧ r.1 = (if y = 0 then nI (cnt (pf_P S o kd) 48) else nI (cnt (anyC S o kd) 8)) := by
  obtain ⟨q, eq, q1, q2⟩ := z_layClashes h nc ng
  have hc48 := cnt_le (pf_P S o kd) 48
  obtain ⟨r, e, hr⟩ := jx_loop0 (step := pf_X7_clashMany_s1 q) (fun n s => s.2 = nI n ∧ ∀ j, j < 32 → (bt s.1 j = true ↔ ∃ f, f < 48 ∧ pf_P S o kd f = true ∧ cnt (pf_P S o kd) f < n ∧ f / 6 = j)) (fun r => ∀ j, j < 32 → (bt r j = true ↔ ∃ f, f < 48 ∧ pf_P S o kd f = true ∧ f / 6 = j)) (cnt (pf_P S o kd) 48) (by omega) ((0 : Int32), (0 : Int32)) ⟨rfl, fun j hj => by
      dsimp only
      rw [b_0]
      exact ⟨fun hh => absurd hh ff, fun ⟨f, _, _, hh, _⟩ => absurd hh (Nat.not_lt_zero _)⟩⟩ (by
    rintro n ⟨x, z⟩ hn ⟨rfl, hb⟩
    dsimp only at hb
    unfold pf_X7_clashMany_s1
    dsimp only
    rw [q1]
    by_cases hn2 : n = cnt (pf_P S o kd) 48
    · rw [if_pos (nI_le (by omega) (by omega))]
      refine Or.inl ⟨_, rfl, fun j hj => ?_⟩
      rw [hb j hj]
      constructor
      · rintro ⟨f, f1, f2, _, f3⟩; exact ⟨f, f1, f2, f3⟩
      · rintro ⟨f, f1, f2, f3⟩
        refine ⟨f, f1, f2, ?_, f3⟩
        have := cnt_up (pf_P S o kd) (show f + 1 ≤ 48 by omega)
        rw [cnt_S, f2, if_pos rfl] at this; omega
    · obtain ⟨f, f1, f2, f3⟩ := cnt_at (pf_P S o kd) (show n < cnt (pf_P S o kd) 48 by omega)
      rw [if_neg (nI_ge (by omega) (by omega)), jx_gk _ (by omega) (by omega), nI_clamp (by omega), nI_1]
      have hq := q2 f f1 f2
      rw [f3] at hq
      rw [hq, k6, pk_div (by omega) (by omega) (by omega)]
      refine Or.inr ⟨by omega, _, rfl, rfl, fun j hj => ?_⟩
      dsimp only
      rw [b_or, b_one _ (by omega) hj, Bool.or_eq_true, hb j hj, decide_eq_true_eq]
      constructor
      · rintro (⟨g, g1, g2, g3, g4⟩ | hj2)
        · exact ⟨g, g1, g2, by omega, g4⟩
        · exact ⟨f, f1, f2, by omega, hj2.symm⟩
      · rintro ⟨g, g1, g2, g3, g4⟩
        by_cases hg : cnt (pf_P S o kd) g = n
        · have := cnt_inj (pf_P S o kd) f2 g2 (by omega)
          rw [this]; exact Or.inr g4.symm
        · exact Or.inl ⟨g, g1, g2, by omega, g4⟩)
  have hcr : cnt (bt r) 8 = cnt (anyC S o kd) 8 := cnt_congr (fun j hj => b_iff (by
    rw [hr j (by omega)]
    unfold anyC
    rw [List.any_eq_true]
    constructor
    · rintro ⟨f, f1, f2, f3⟩
      refine ⟨f % 6, List.mem_range.mpr (by omega), ?_⟩
      rw [← f3]; exact f2
    · rintro ⟨a, a1, a2⟩
      have a1 := List.mem_range.mp a1
      refine ⟨6 * j + a, by omega, ?_, by omega⟩
      unfold pf_P
      rw [show (6 * j + a) / 6 = j by omega, show (6 * j + a) % 6 = a by omega]; exact a2))
  unfold pf_X7_clashMany
  rw [eq, jx_b, e, jx_b]
  by_cases hy : y = 0
  · rw [if_pos hy]
    exact ⟨_, rfl, by rw [if_pos hy]; exact q1⟩
  · rw [if_neg hy, z_ones, jx_b]
    exact ⟨_, rfl, by rw [if_neg hy, hcr]⟩
theorem z_nowbits {cm : Nat → Int64} (h : MO S o kd nr ns nk) (hc : come S o kd cm) : ∃ r, pf_X1_now cm = some r ∧ cnt (bl r) 64 = cnt (pf_P S o kd) 48 := by
  obtain ⟨r, e, hr⟩ := z_now h hc
  refine ⟨r, e, ?_⟩
  rw [show 64 = 48 + 16 from rfl, cnt_add]
  have h1 : cnt (bl r) 48 = cnt (pf_P S o kd) 48 := cnt_congr (fun j hj => by rw [hr j (by omega), decide_eq_true hj, Bool.true_and])
  have h2 : cnt (fun j => bl r (48 + j)) 16 = cnt (fun _ => false) 16 := cnt_congr (fun j hj => by rw [hr _ (by omega), decide_eq_false (by omega)]; rfl)
  rw [h1, h2]; rfl
theorem q_count {cm : Nat → Int64} (h : MO S o kd nr ns nk) (hX : KX ki kd) (hS : KS S kd) (hc : come S o kd cm) (pl bs tl nc : Int32) (ng : Nat → Int32) (y : Int32) : ∃ r r', pf_X6_count pl bs ki cm S tl y = some r ∧ pf_X7_count pl bs nr S ns nk tl nc ng y = some r' ∧ r = r'.1 := by
  unfold pf_X6_count pf_X7_count pf_X7_howMany
  by_cases h0 : y = 0
  · rw [if_pos h0, if_pos h0, jx_b]; exact ⟨_, _, rfl, rfl, rfl⟩
  · rw [if_neg h0, if_neg h0]
    by_cases h1 : y = 1
    · rw [if_pos h1, if_pos h1, jx_b]; exact ⟨_, _, rfl, rfl, rfl⟩
    · rw [if_neg h1, if_neg h1]
      by_cases h2 : y = 2
      · rw [if_pos h2, if_pos h2, z_bc h.1, z_ones, jx_b, jx_b, jx_b]; exact ⟨_, _, rfl, rfl, rfl⟩
      · rw [if_neg h2, if_neg h2]
        by_cases h3 : y = 3
        · rw [if_pos h3, if_pos h3, jx_b]; exact ⟨_, _, rfl, rfl, rfl⟩
        · rw [if_neg h3, if_neg h3]
          by_cases h4 : y = 4
          · rw [if_pos h4, if_pos h4, z_joins hX, z_mjoins h hS, jx_b, jx_b, jx_b]; exact ⟨_, _, rfl, rfl, rfl⟩
          · rw [if_neg h4, if_neg h4]
            by_cases h5 : y = 5
            · obtain ⟨r, e, hr⟩ := z_nowbits h hc
              obtain ⟨r', e', hr'⟩ := z_clashMany h nc ng 0
              rw [if_pos h5, if_pos h5, e, jx_b, z_bc64, jx_b, e', jx_b, jx_b]
              exact ⟨_, _, rfl, rfl, by dsimp only; rw [hr', if_pos rfl, hr]⟩
            · rw [if_neg h5, if_neg h5]
              by_cases h6 : y = 6
              · obtain ⟨r', e', hr'⟩ := z_clashMany h nc ng 1
                rw [if_pos h6, if_pos h6, z_partsNow h hc, jx_b, e', jx_b, jx_b]
                exact ⟨_, _, rfl, rfl, by dsimp only; rw [hr', if_neg n1n0]⟩
              · rw [if_neg h6, if_neg h6]
                by_cases h7 : y = 7
                · rw [if_pos h7, if_pos h7, jx_b]; exact ⟨_, _, rfl, rfl, rfl⟩
                · rw [if_neg h7, if_neg h7, jx_b]; exact ⟨_, _, rfl, rfl, rfl⟩
end CN
