/-! the reference's way; way answers alike -/
theorem within_neg {y b : Int32} (h : y < 0) : pf_X7_within y 0 b = some 0 := by unfold pf_X7_within; rw [if_pos h]
theorem within_nI {m b : Nat} (hm : m < 2 ^ 31) (hb : b < 2 ^ 31) : pf_X7_within (nI m) 0 (nI b) = some (bi (decide (m ≤ b))) := by
  rw [k0, z_within hm hb (by omega) rfl]
  congr 2
  by_cases h : m ≤ b
  · rw [decide_eq_true h, decide_eq_true ⟨by omega, h⟩]
  · rw [decide_eq_false h, decide_eq_false (fun hh => h hh.2)]
theorem within_m1 {y : Int32} : pf_X7_within y 0 (-1) = some 0 := by
  unfold pf_X7_within
  by_cases h : y < 0
  · rw [if_pos h]
  · rw [if_neg h, if_pos]
    rw [Int32.lt_iff_toInt_lt] at h ⊢
    have h1 : (-1 : Int32).toInt = -1 := by decide
    have h2 : (0 : Int32).toInt = 0 := by decide
    omega
theorem item_out {y : Int32} (h : y < 0 ∨ nI 12 ≤ y) : pf_X6_isItem y = some 0 ∧ pf_X7_within y 0 11 = some 0 := by
  unfold pf_X6_isItem pf_X7_within
  by_cases h0 : y < 0
  · rw [if_pos h0, if_pos h0]; exact ⟨rfl, rfl⟩
  · have h1 := h.resolve_left h0
    rw [if_neg h0, if_neg h0, k12, if_pos h1, if_pos]
    · exact ⟨rfl, rfl⟩
    · rw [Int32.lt_iff_toInt_lt]
      rw [Int32.le_iff_toInt_le, nI_toInt (by omega)] at h1
      have h2 : (11 : Int32).toInt = 11 := by decide
      omega
theorem item_in {i : Nat} (h : i < 12) : pf_X6_isItem (nI i) = some 1 ∧ pf_X7_within (nI i) 0 11 = some 1 := by
  constructor
  · unfold pf_X6_isItem
    rw [if_neg (nI_pos (by omega)), k12, if_neg (nI_ge (by omega) (by omega))]
  · rw [show (11 : Int32) = nI 11 from rfl, within_nI (by omega) (by omega), decide_eq_true (by omega)]; rfl
section WM
variable {S : Int32} {o kd : Nat → Nat → Nat} {ki nr ns nk : Nat → Int32}
theorem hd_lv {i a : Nat} (hz : hd S o kd i a ≠ 0) : ∃ d0, d0 ≤ 7 ∧ lv (eE S kd (hd S o kd i a)) (sX S o i (hd S o kd i a)) a d0 = true := by
  have e : cX S o kd i (hd S o kd i a) a = true := by
    unfold hd at hz ⊢
    cases h3 : cX S o kd i 3 a with
    | true => rw [if_pos rfl]; exact h3
    | false =>
      rw [h3, if_neg ff] at hz
      rw [if_neg ff]
      cases h2 : cX S o kd i 2 a with
      | true => rw [if_pos rfl]; exact h2
      | false =>
        rw [h2, if_neg ff] at hz
        rw [if_neg ff]
        cases h1 : cX S o kd i 1 a with
        | true => rw [if_pos rfl]; exact h1
        | false => rw [h1, if_neg ff] at hz; exact absurd rfl hz
  exact lv_ex e
theorem z_layWay (h : MO S o kd nr ns nk) (nw : Int32) (na nf : Nat → Int32) {i a : Nat} (hi : i < 12) (ha : a < 8) : ∃ r, pf_X7_layWay nr S ns nk nw na nf (nI a) (nI i) = some r ∧ ((hd S o kd i a = 0 ∧ r.1 = 0) ∨ ∃ d0, d0 ≤ 7 ∧ lv (eE S kd (hd S o kd i a)) (sX S o i (hd S o kd i a)) a d0 = true ∧ hd S o kd i a ≠ 0 ∧ r.1 = nI (d0 + 1) ∧ ∀ t, t ≤ d0 → r.2.1 t = nI (wy S o kd i (hd S o kd i a) a d0 t)) := by
  have hk3 : hd S o kd i a ≤ 3 := hd_le
  unfold pf_X7_layWay
  rw [z_heldNow h hi ha, jx_b]
  by_cases hz : hd S o kd i a = 0
  · rw [if_neg (by rw [hz]; exact fun hh => hh rfl)]
    exact ⟨_, rfl, Or.inl ⟨hz, rfl⟩⟩
  · obtain ⟨d0, hd0, hl0⟩ := hd_lv hz
    generalize hd S o kd i a = k at *
    obtain ⟨F, eF, hF⟩ := z_layFar h hi hk3 nf
    have hFl : ∀ q d, q < 8 → d ≤ 7 → (F q = nI d ↔ lv (eE S kd k) (sX S o i k) q d = true) := by
      intro q d hq hd
      obtain ⟨f, f1, f2, f3, f4⟩ := hF q hq
      constructor
      · intro hh
        rw [f1, nI_eq (by omega) (by omega)] at hh
        rw [← hh]; exact f3 (by omega)
      · intro hh; rw [f1, f4 d hd hh]
    have hF1 : ∀ q d, q < 8 → d ≤ 7 → (F q + 1 = nI (d + 1) ↔ lv (eE S kd k) (sX S o i k) q d = true) := by
      intro q d hq hd
      obtain ⟨f, f1, f2, f3, f4⟩ := hF q hq
      rw [← hFl q d hq hd, f1, nI_1, nI_eq (by omega) (by omega), nI_eq (by omega) (by omega)]
      omega
    rw [if_pos (by rw [k0, nI_eq (by omega) (by omega)]; exact hz), eF, jx_b, show jx_in (0 : Int32) 8 = jx_in (nI 0) 8 from rfl, jx_gk _ (by omega) (by omega)]
    obtain ⟨r, e, hr⟩ := jx_loop0 (step := pf_X7_layWay_s1 S nk (nI k) F) (fun n s => s.1 = nI (wy S o kd i k a d0 n) ∧ s.2.1 = nI (n + 1) ∧ ∀ t, t ≤ n → s.2.2 t = nI (wy S o kd i k a d0 t)) (fun r => r.1 = nI (d0 + 1) ∧ ∀ t, t ≤ d0 → r.2 t = nI (wy S o kd i k a d0 t)) d0 (by omega) (nI a, (1 : Int32), upd na ((0 : Int32)).toNatClampNeg (nI a)) ⟨rfl, rfl, fun t ht => by
        dsimp only
        rw [show t = 0 by omega, show ((0 : Int32)).toNatClampNeg = 0 from rfl, pk_us]; rfl⟩ (by
      rintro n ⟨x, y, G⟩ hn ⟨rfl, rfl, hG⟩
      dsimp only at hG
      obtain ⟨w1, w2⟩ := wy_lv ha hl0 n hn
      have hFw := (hFl _ (d0 - n) w1 (by omega)).mpr w2
      unfold pf_X7_layWay_s1
      dsimp only
      rw [jx_gk _ w1 (by omega), nI_clamp (by omega)]
      by_cases hnd : n = d0
      · subst hnd
        rw [if_pos (by rw [hFw, Nat.sub_self]; decide)]
        exact Or.inl ⟨_, rfl, rfl, hG⟩
      · rw [if_neg (by rw [hFw]; exact nI_nle (by omega) (by omega))]
        obtain ⟨x, ex, hx⟩ := jx_loop0 (step := pf_X7_layWay_s2 S nk (nI k) F (nI (wy S o kd i k a d0 n), nI (n + 1), G)) (fun m s => s = nI m ∧ ∀ q, q < m → (eE S kd k (wy S o kd i k a d0 n) q && lv (eE S kd k) (sX S o i k) q (d0 - (n + 1))) = false) (fun x => x = nI (wy S o kd i k a d0 (n + 1))) 7 (by omega) 0 ⟨rfl, fun q hq => by omega⟩ (by
          rintro m s hm ⟨rfl, hb⟩
          unfold pf_X7_layWay_s2
          dsimp only
          rw [z_isLet h w1 (by omega) (by omega), jx_b, bi0, nI_1]
          have last : ∀ P : Bool, P = (eE S kd k (wy S o kd i k a d0 n) m && lv (eE S kd k) (sX S o i k) m (d0 - (n + 1))) → P = false → m < 7 := by
            intro P hP hP0
            rcases Nat.lt_or_ge m 7 with hh | hh
            · exact hh
            · have hm7 : m = 7 := by omega
              subst hm7
              rw [show d0 - n = d0 - (n + 1) + 1 by omega] at w2
              obtain ⟨q, hq, hE, hl⟩ := lv_step w2
              by_cases hq7 : q = 7
              · rw [hq7] at hE hl
                rw [hE, hl] at hP; rw [hP] at hP0; cases hP0
              · have := hb q (by omega); rw [hE, hl] at this; cases this
          cases hE : eE S kd k (wy S o kd i k a d0 n) m with
          | false =>
            rw [if_neg ff]
            refine Or.inr ⟨last false (by rw [hE]; rfl) rfl, _, rfl, rfl, fun q hq => ?_⟩
            by_cases hqm : q = m
            · rw [hqm, hE]; rfl
            · exact hb q (by omega)
          | true =>
            rw [if_pos rfl, jx_gk _ (by omega) (by omega), jx_gk _ w1 (by omega), nI_clamp (by omega), nI_clamp (by omega), hFw, show d0 - n = d0 - (n + 1) + 1 by omega]
            cases hlm : lv (eE S kd k) (sX S o i k) m (d0 - (n + 1)) with
            | true =>
              rw [if_pos ((hF1 m _ (by omega) (by omega)).mpr hlm)]
              refine Or.inl ⟨_, rfl, ?_⟩
              rw [show wy S o kd i k a d0 (n + 1) = m from lst_eq (by omega) (by rw [hE, hlm]; rfl) hb]
            | false =>
              rw [if_neg (fun hh => by have := (hF1 m _ (by omega) (by omega)).mp hh; rw [hlm] at this; cases this)]
              refine Or.inr ⟨last false (by rw [hE, hlm]; rfl) rfl, _, rfl, rfl, fun q hq => ?_⟩
              by_cases hqm : q = m
              · rw [hqm, hE, hlm]; rfl
              · exact hb q (by omega))
        rw [ex, jx_b, jx_gk _ (by omega) (by omega), nI_clamp (by omega), nI_1]
        refine Or.inr ⟨by omega, _, rfl, hx, rfl, fun t ht => ?_⟩
        dsimp only
        by_cases htn : t = n + 1
        · rw [htn, pk_us]; exact hx
        · rw [pk_un htn]; exact hG t (by omega))
    rw [e, jx_b]
    exact ⟨_, rfl, Or.inr ⟨d0, hd0, hl0, hz, hr.1, hr.2⟩⟩
/-- way answers alike -/
theorem q_way {ow cm : Nat → Int64} (h : MO S o kd nr ns nk) (hX : KX ki kd) (hS : KS S kd) (how : ∀ p, p < 8 → bt S p = true → rOK (ow p) (o p)) (hc : come S o kd cm) (jl : Nat → Int32) (nw : Int32) (na nf : Nat → Int32) (x y z : Int32) : ∃ r r', pf_X6_way ow ki cm S jl x y z = some r ∧ pf_X7_way nr S ns nk nw na nf x y z = some r' ∧ r.1 = r'.1 := by
  unfold pf_X6_way pf_X7_way
  rcases ix x 8 (by omega) with hx | ⟨a, ha, rfl⟩
  · rw [z_xhas_out S hx, z_mhas_out S hx, jx_b, jx_b, if_neg (fun hh => hh rfl), if_neg (fun hh => hh rfl)]
    exact ⟨_, _, rfl, rfl, rfl⟩
  · rw [z_xhas S ha, z_mhas S ha, jx_b, jx_b, bin, bin]
    cases hb : bt S a with
    | false => rw [if_neg ff, if_neg ff]; exact ⟨_, _, rfl, rfl, rfl⟩
    | true =>
      rw [if_pos rfl, if_pos rfl]
      rcases ix y 12 (by omega) with hy | ⟨i, hi, rfl⟩
      · rw [(item_out hy).1, (item_out hy).2, jx_b, jx_b, if_pos rfl, if_neg (fun hh => hh rfl)]
        exact ⟨_, _, rfl, rfl, rfl⟩
      · rw [(item_in hi).1, (item_in hi).2, jx_b, jx_b, if_neg n1n0, if_pos n1n0]
        obtain ⟨r, e, hr⟩ := z_partAt h.1 hX hS h.oOK how hc jl hi ha z
        obtain ⟨r', e', hr'⟩ := z_layWay h nw na nf hi ha
        rw [e, e', jx_b, jx_b]
        rcases hr with ⟨hz, hr⟩ | ⟨d0, hd0, hl0, hz, hr⟩
        · rcases hr' with ⟨_, hr'⟩ | ⟨_, _, _, hz', _⟩
          · rw [hr', show (0 : Int32) - 1 = -1 by decide, within_m1, jx_b, if_pos rfl]
            exact ⟨_, _, rfl, rfl, hr⟩
          · exact absurd hz hz'
        · rcases hr' with ⟨hz', _⟩ | ⟨d1, hd1, hl1, _, hr1, hr2⟩
          · exact absurd hz' hz
          · have hdd := lv_uniq hl0 hl1
            subst hdd
            rw [hr1, nI_pred]
            rcases hr with ⟨hy, hr⟩ | ⟨m, hm, rfl, hr⟩
            · rw [within_neg hy, jx_b, if_pos rfl]
              exact ⟨_, _, rfl, rfl, hr⟩
            · rw [within_nI hm (by omega), jx_b, bi0]
              rcases hr with ⟨hlt, hr⟩ | ⟨hle, hr⟩
              · rw [decide_eq_false (by omega), if_neg ff]
                exact ⟨_, _, rfl, rfl, hr⟩
              · rw [decide_eq_true hle, if_pos rfl, jx_gk _ (by omega) (by omega), nI_clamp (by omega), hr2 m hle]
                exact ⟨_, _, rfl, rfl, hr⟩
/-- held answers alike -/
theorem q_held {cm : Nat → Int64} (h : MO S o kd nr ns nk) (hc : come S o kd cm) (x y : Int32) : ∃ r, pf_X6_held cm S x y = some r ∧ pf_X7_held nr S ns nk x y = some r := by
  unfold pf_X6_held pf_X7_held
  rcases ix x 8 (by omega) with hx | ⟨a, ha, rfl⟩
  · rw [z_xhas_out S hx, z_mhas_out S hx, jx_b, jx_b, if_neg (fun hh => hh rfl), if_neg (fun hh => hh rfl)]
    exact ⟨_, rfl, rfl⟩
  · rw [z_xhas S ha, z_mhas S ha, jx_b, jx_b, bin, bin]
    cases hb : bt S a with
    | false => rw [if_neg ff, if_neg ff]; exact ⟨_, rfl, rfl⟩
    | true =>
      rw [if_pos rfl, if_pos rfl]
      rcases ix y 12 (by omega) with hy | ⟨i, hi, rfl⟩
      · rw [(item_out hy).1, (item_out hy).2, jx_b, jx_b, if_pos rfl, if_pos rfl]
        exact ⟨_, rfl, rfl⟩
      · rw [(item_in hi).1, (item_in hi).2, jx_b, jx_b, if_neg n1n0, if_neg n1n0]
        unfold pf_X3_reachHeld
        rw [jx_gk _ ha (by omega), nI_clamp (by omega), z_greatest _ hi, jx_b, jx_b, z_gr hc h.1 hi ha (fun p hp => h.oOK p hp i hi), z_heldNow h hi ha, jx_b]
        exact ⟨_, rfl, rfl⟩
end WM
