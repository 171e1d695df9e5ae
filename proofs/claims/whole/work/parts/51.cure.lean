/-! cure: alike; the calls cause and cure -/
def cl0 (Z : Int32) (o kd : Nat → Nat → Nat) : Bool := (List.range 48).all (fun f => !pf_P Z o kd f)
theorem cl0_iff {Z : Int32} {o kd : Nat → Nat → Nat} : cl0 Z o kd = true ↔ ∀ f, f < 48 → pf_P Z o kd f = false := by
  unfold cl0
  rw [List.all_eq_true]
  constructor
  · intro h f hf
    have := h f (List.mem_range.mpr hf)
    rw [Bool.not_eq_true'] at this; exact this
  · intro h f hf
    rw [h f (List.mem_range.mp hf)]; rfl
def dD (S : Int32) (o kd : Nat → Nat → Nat) (t : Nat) : Bool := inS S t && cl0 (S &&& (nI t ^^^ -1)) o kd
theorem l_zero {x : Int64} (h : ∀ i, i < 64 → bl x i = false) : x = 0 := l_ext (fun i hi => by rw [h i hi, l_0])
theorem l_zero_iff {x : Int64} {P : Nat → Bool} (h : ∀ f, f < 64 → bl x f = (decide (f < 48) && P f)) : x = 0 ↔ ∀ f, f < 48 → P f = false := by
  constructor
  · intro hx f hf
    have := h f (by omega)
    rw [hx, l_0, decide_eq_true hf, Bool.true_and] at this
    exact this.symm
  · intro hp
    refine l_zero (fun f hf => ?_)
    rw [h f hf]
    by_cases h48 : f < 48
    · rw [hp f h48, Bool.and_false]
    · rw [decide_eq_false h48]; rfl
section CU
variable {S : Int32} {o kd : Nat → Nat → Nat} {nr ns nk : Nat → Int32} {ow th cm : Nat → Int64}
theorem rest_nI (h8 : S8 S) (n : Int32) : ∃ u, u < 256 ∧ S &&& (n ^^^ -1) = nI u ∧ inS S u = true := by
  obtain ⟨u, hu, he⟩ := S8_nI (S := S &&& (n ^^^ -1)) (fun i hi => by rw [b_and, h8 i hi]; rfl)
  refine ⟨u, hu, he, (inS_iff hu).mpr (fun j hj hb => ?_)⟩
  have : bt (S &&& (n ^^^ -1)) j = true := by rw [he, b_nI u (by omega)]; exact hb
  rw [b_and, Bool.and_eq_true] at this
  exact this.1
theorem rest_0 : S &&& (nI 0 ^^^ -1) = S := b_ext (fun i hi => by rw [b_and, b_xor, b_m1 i hi, b_nI 0 hi, Nat.zero_testBit]; simp)
theorem rest_S : S &&& (S ^^^ -1) = 0 := b_ext (fun i hi => by rw [b_and, b_xor, b_m1 i hi, b_0]; cases bt S i <;> rfl)
theorem cl0_0 : cl0 0 o kd = true := cl0_iff.mpr (fun f hf => by
  cases hp : pf_P 0 o kd f with
  | false => rfl
  | true =>
    unfold pf_P clsh at hp
    rw [Bool.and_eq_true] at hp
    have := hb_S hp.1
    rw [b_0] at this; cases this)
theorem dD_s0 {s0 : Nat} (hs : s0 < 256) (hS : S = nI s0) : dD S o kd s0 = true := by
  unfold dD
  have : inS S s0 = true := (inS_iff hs).mpr (fun j hj hb => by rw [hS, b_nI s0 (by omega)]; exact hb)
  rw [this, ← hS, rest_S, cl0_0]; rfl
theorem pc_0 : pc 0 = 0 := by decide
theorem z_cureX (h : MO S o kd nr ns nk) (hc : come S o kd cm) (how : ∀ p, p < 8 → bt S p = true → rOK (ow p) (o p)) (hth : ∀ p q, p < 8 → q < 8 → bt S p = true → bt S q = true → tOK (th (p * 8 + q)) (kd p q)) (ch kf : Int32) (bz rw' : Nat → Int64) (hk : kf = ch → KB S o kd bz) : ∃ r, pf_X1_fewestToLeave ow th cm S ch bz rw' kf = some r ∧ (r.2.2.2 = ch ∨ r.2.2.2 = kf) ∧ (r.2.2.2 = ch → KB S o kd r.2.1) ∧ ∃ t, r.1 = nI t ∧ best (dD S o kd) t := by
  obtain ⟨s0, hs0, hS0⟩ := S8_nI h.1
  obtain ⟨a, ea, ha⟩ := z_now h hc
  unfold pf_X1_fewestToLeave
  rw [ea, jx_b]
  by_cases hz : a = 0
  · have hcl : cl0 S o kd = true := cl0_iff.mpr ((l_zero_iff ha).mp hz)
    rw [if_neg (fun hh => hh (l_ne.mpr hz))]
    refine ⟨_, rfl, Or.inr rfl, hk, 0, rfl, by omega, ?_, fun t ht _ => ?_⟩
    · unfold dD
      rw [rest_0, hcl, (inS_iff (by omega)).mpr (fun j _ hb => by rw [Nat.zero_testBit] at hb; cases hb)]; rfl
    · rw [pc_0]; omega
  · obtain ⟨q, eq, q1, q2⟩ := z_keepAll h how hth ch kf bz rw' hk
    rw [if_pos (fun hh => hz (l_ne.mp hh)), eq, jx_b]
    obtain ⟨r, e, hr⟩ := few (C := dD S o kd) (step := pf_X1_fewestToLeave_s1 S q) hs0 (dD_s0 hs0 hS0) (fun t ht hCt j hj hb => by
        unfold dD at hCt
        rw [Bool.and_eq_true] at hCt
        have := (inS_iff ht).mp hCt.1 j hj hb
        rw [hS0, b_nI s0 (by omega)] at this; exact this) (by
      intro n b hn hb
      obtain ⟨u, hu, hue, hui⟩ := rest_nI h.1 (nI n)
      unfold pf_X1_fewestToLeave_s1 dD
      dsimp only
      rw [hue, k256, if_neg (nI_ge (by omega) (by omega)), jx_gk _ hu (by omega), nI_clamp (by omega), z_isFewer h.1 hn hb, nI_1]
      by_cases hqz : q.1 u = 0
      · have hcl : cl0 (nI u) o kd = true := cl0_iff.mpr ((l_zero_iff (q1 u hu hui)).mp hqz)
        rw [if_neg (fun hh => hh (l_ne.mpr hqz)), jx_b, bi0, hcl, Bool.and_true]
        cases inS S n && decide (pc n < pc b)
        · rw [if_neg ff, jx_b, if_neg ff]
        · rw [if_pos rfl, jx_b, if_pos rfl]
      · have hcl : cl0 (nI u) o kd = false := by
          cases hcl : cl0 (nI u) o kd with
          | false => rfl
          | true => exact absurd ((l_zero_iff (q1 u hu hui)).mpr (cl0_iff.mp hcl)) hqz
        rw [if_pos (fun hh => hqz (l_ne.mp hh)), jx_b, hcl, Bool.and_false, Bool.false_and, if_neg ff]) (by
      intro b hb
      unfold pf_X1_fewestToLeave_s1
      dsimp only
      rw [k256, if_pos (nI_le (Nat.le_refl _) (by omega))])
    rw [← hS0] at e
    rw [e, jx_b]
    exact ⟨_, rfl, Or.inl q2, fun _ => q1, r, rfl, hr⟩
theorem z_isClean {Z : Int32} (h : MO Z o kd nr ns nk) : pf_X7_isClean nr ns nk Z = some (bi (cl0 Z o kd)) := by
  obtain ⟨r, e, hr⟩ := jx_loop0 (step := pf_X7_isClean_s1 nr ns nk Z) (fun n s => s.2 = nI n ∧ ((s.1 = 1 ∧ ∀ a, a < n → ∀ p, p < 8 → clsh Z o kd p a = false) ∨ (s.1 = 0 ∧ ∃ a, a < 6 ∧ ∃ p, p < 8 ∧ clsh Z o kd p a = true))) (fun r => r = bi (cl0 Z o kd)) 6 (by omega) ((1 : Int32), (0 : Int32)) ⟨rfl, Or.inl ⟨rfl, fun a ha => by omega⟩⟩ (by
    rintro n ⟨x, z⟩ hn ⟨rfl, hb⟩
    dsimp only at hb
    have hend0 : (∃ a, a < 6 ∧ ∃ p, p < 8 ∧ clsh Z o kd p a = true) → cl0 Z o kd = false := by
      rintro ⟨a, ha, p, hp, hc⟩
      cases hcl : cl0 Z o kd with
      | false => rfl
      | true =>
        have := cl0_iff.mp hcl (6 * p + a) (by omega)
        unfold pf_P at this
        rw [show (6 * p + a) / 6 = p by omega, show (6 * p + a) % 6 = a by omega, hc] at this; cases this
    unfold pf_X7_isClean_s1
    dsimp only
    by_cases h6 : 6 ≤ n
    · rw [k6, if_pos (nI_le h6 (by omega))]
      refine Or.inl ⟨_, rfl, ?_⟩
      rcases hb with ⟨rfl, hb⟩ | ⟨rfl, hb⟩
      · have : cl0 Z o kd = true := cl0_iff.mpr (fun f hf => hb (f % 6) (by omega) (f / 6) (by omega))
        rw [this]; rfl
      · rw [hend0 hb]; rfl
    · rw [k6, if_neg (nI_ge (by omega) (by omega))]
      rcases hb with ⟨rfl, hb⟩ | ⟨rfl, hb⟩
      · obtain ⟨r, e, hr⟩ := z_clashing h (a := n) (by omega)
        rw [if_neg n1n0, e, jx_b, nI_1]
        refine Or.inr ⟨by omega, ?_⟩
        by_cases hrz : r = 0
        · refine ⟨((1 : Int32), nI (n + 1)), ?_, rfl, Or.inl ⟨rfl, fun a ha p hp => ?_⟩⟩
          · rw [if_neg (fun hh => hh hrz), jx_b]
          · by_cases han : a = n
            · have := hr p (by omega)
              rw [hrz, b_0] at this
              rw [han]; exact this.symm
            · exact hb a (by omega) p hp
        · refine ⟨((0 : Int32), nI (n + 1)), ?_, rfl, Or.inr ⟨rfl, ?_⟩⟩
          · rw [if_pos hrz, jx_b]
          · apply Classical.byContradiction
            intro hno
            refine hrz (b_zero (fun i hi => ?_))
            rw [hr i hi]
            cases hc : clsh Z o kd i n with
            | false => rfl
            | true =>
              have hi8 : i < 8 := by
                unfold clsh at hc
                rw [Bool.and_eq_true] at hc
                exact S8_lt h.1 (hb_S hc.1)
              exact absurd ⟨n, by omega, i, hi8, hc⟩ hno
      · rw [if_pos rfl]
        exact Or.inl ⟨_, rfl, by rw [hend0 hb]; rfl⟩)
  unfold pf_X7_isClean
  rw [e, jx_b, hr]
  cases cl0 Z o kd
  · exact jx_g _ (by decide)
  · exact jx_g _ (by decide)
theorem z_cureM (h : MO S o kd nr ns nk) : ∃ t, pf_X7_cureNow nr S ns nk = some (nI t) ∧ best (dD S o kd) t := by
  obtain ⟨s0, hs0, hS0⟩ := S8_nI h.1
  have inner : ∀ m, m ≤ 8 → ∃ r, jx_iter (pf_X7_cureNow_s2 nr S ns nk (nI m)) jx_F (0 : Int32) = some r ∧ ((r = .inl () ∧ ∀ t, 0 ≤ t → t < 256 → dD S o kd t = true → pc t ≠ m) ∨ ∃ t, 0 ≤ t ∧ t < 256 ∧ r = .inr (nI t) ∧ dD S o kd t = true ∧ pc t = m ∧ ∀ t', 0 ≤ t' → t' < t → dD S o kd t' = true → pc t' ≠ m) := by
    intro m hm
    refine srch (C := dD S o kd) (m := m) (n0 := 0) (by omega) (fun n h1 hn => ?_) ?_
    · have hle := cnt_le (fun j => n.testBit j) 8
      unfold pf_X7_cureNow_s2
      rw [k256, if_neg (nI_ge (by omega) (by omega)), nI_1]
      unfold dD
      cases hin : inS S n with
      | false => rw [if_pos (of_decide_eq_false hin), Bool.false_and, Bool.false_and, if_neg ff]
      | true =>
        rw [if_neg (fun hh => hh (of_decide_eq_true hin)), z_ones, jx_b, cnt_congr (Q := fun j => n.testBit j) (fun j hj => b_nI n (show j < 32 by omega)), Bool.true_and]
        by_cases hpm : pc n = m
        · have hpm' : cnt (fun j => n.testBit j) 8 = m := hpm
          rw [hpm', if_neg (fun hh => hh rfl), z_isClean (h.sub (S' := S &&& (nI n ^^^ -1)) (fun p hp => by rw [b_and, Bool.and_eq_true] at hp; exact hp.1)), jx_b, bi0, decide_eq_true hpm, Bool.and_true]
        · rw [if_pos (by rw [nI_eq (by omega) (by omega)]; exact hpm), decide_eq_false hpm, Bool.and_false, if_neg ff]
    · unfold pf_X7_cureNow_s2
      rw [k256, if_pos (nI_le (Nat.le_refl _) (by omega))]
  obtain ⟨r, e, hr⟩ := jx_loop0 (step := pf_X7_cureNow_s1 nr S ns nk) (fun i s => s = nI i ∧ ∀ t, t < 256 → dD S o kd t = true → i ≤ pc t) (fun r => (r = .inl () ∧ ∀ t, t < 256 → dD S o kd t = true → 8 ≤ pc t) ∨ ∃ t, r = .inr (nI t) ∧ best (dD S o kd) t) 8 (by omega) 0 ⟨rfl, fun t _ _ => Nat.zero_le _⟩ (by
    rintro i s hi ⟨rfl, hb⟩
    unfold pf_X7_cureNow_s1
    by_cases h8 : i = 8
    · subst h8
      rw [if_pos (by decide)]
      exact Or.inl ⟨_, rfl, Or.inl ⟨rfl, hb⟩⟩
    · rw [k8, if_neg (nI_ge (by omega) (by omega))]
      obtain ⟨x, ex, hx⟩ := inner i (by omega)
      rw [ex, jx_b, nI_1]
      rcases hx with ⟨rfl, hx⟩ | ⟨t, t1, t2, rfl, t3, t4, t5⟩
      · refine Or.inr ⟨by omega, _, rfl, rfl, fun t ht hc => ?_⟩
        have h1 := hb t ht hc
        have h2 := hx t (Nat.zero_le _) ht hc
        omega
      · refine Or.inl ⟨_, rfl, Or.inr ⟨t, rfl, t2, t3, fun t' ht' hc' => ?_⟩⟩
        have h1 := hb t' ht' hc'
        by_cases he : pc t' = i
        · right
          refine ⟨by omega, ?_⟩
          rcases Nat.lt_or_ge t' t with hh | hh
          · exact absurd he (t5 t' (Nat.zero_le _) hh hc')
          · exact hh
        · left; omega)
  unfold pf_X7_cureNow
  rw [e, jx_b]
  rcases hr with ⟨rfl, hr⟩ | ⟨t, rfl, hr⟩
  · refine ⟨s0, by rw [← hS0]; rfl, hs0, dD_s0 hs0 hS0, fun t ht hC => ?_⟩
    have h1 := hr t ht hC
    have h2 := cnt_le (fun j => s0.testBit j) 8
    have : t = s0 := pc_eq hs0 ht (fun j hj hb => by
      unfold dD at hC
      rw [Bool.and_eq_true] at hC
      have := (inS_iff ht).mp hC.1 j hj hb
      rw [hS0, b_nI s0 (by omega)] at this; exact this) (by unfold pc at *; omega)
    rw [this]; omega
  · exact ⟨t, rfl, hr⟩
theorem q_cure (h : MO S o kd nr ns nk) (hc : come S o kd cm) (how : ∀ p, p < 8 → bt S p = true → rOK (ow p) (o p)) (hth : ∀ p q, p < 8 → q < 8 → bt S p = true → bt S q = true → tOK (th (p * 8 + q)) (kd p q)) (ch kf : Int32) (bz rw' : Nat → Int64) (hk : kf = ch → KB S o kd bz) : ∃ r r', pf_X6_cure ow th cm S ch bz rw' kf = some r ∧ pf_X7_cure nr S ns nk = some r' ∧ pf_X7_cureNow nr S ns nk = some r' ∧ r.1 = r' ∧ (r.2.2.2 = ch ∨ r.2.2.2 = kf) ∧ (r.2.2.2 = ch → KB S o kd r.2.1) := by
  obtain ⟨r, e, r1, r2, t, r3, r4⟩ := z_cureX h hc how hth ch kf bz rw' hk
  obtain ⟨t', e', h'⟩ := z_cureM h
  unfold pf_X6_cure pf_X7_cure
  rw [e, jx_b, e', jx_b]
  exact ⟨_, _, rfl, rfl, rfl, by rw [r3, best_uniq r4 h'], r1, r2⟩
theorem q_cause (h : MO S o kd nr ns nk) (hc : come S o kd cm) (how : ∀ p, p < 8 → bt S p = true → rOK (ow p) (o p)) (hth : ∀ p q, p < 8 → q < 8 → bt S p = true → bt S q = true → tOK (th (p * 8 + q)) (kd p q)) (ch kf : Int32) (bz rw' : Nat → Int64) (hk : kf = ch → KB S o kd bz) (x y : Int32) : ∃ r r', pf_X6_cause ow th cm S ch bz rw' kf x y = some r ∧ pf_X7_cause nr S ns nk x y = some r' ∧ r.1 = r' ∧ (r.2.2.2 = ch ∨ r.2.2.2 = kf) ∧ (r.2.2.2 = ch → KB S o kd r.2.1) := by
  unfold pf_X6_cause pf_X7_cause
  rcases ix x 8 (by omega) with hx | ⟨p, hp, rfl⟩
  · rw [z_xhas_out S hx, z_mhas_out S hx, jx_b, jx_b, if_neg (fun hh => hh rfl), if_neg (fun hh => hh rfl)]
    exact ⟨_, _, rfl, rfl, rfl, Or.inr rfl, hk⟩
  · rw [z_xhas S hp, z_mhas S hp, jx_b, jx_b, bin, bin]
    cases hb : bt S p with
    | false => rw [if_neg ff, if_neg ff]; exact ⟨_, _, rfl, rfl, rfl, Or.inr rfl, hk⟩
    | true =>
      rw [if_pos rfl, if_pos rfl]
      by_cases hy : y < 0
      · rw [if_pos hy, within_neg hy, jx_b, if_pos rfl]
        exact ⟨_, _, rfl, rfl, rfl, Or.inr rfl, hk⟩
      · obtain ⟨a, ha, rfl⟩ := nI_of hy
        rw [if_neg hy, show (5 : Int32) = nI 5 from rfl, within_nI ha (by omega), jx_b, bi0]
        by_cases h6 : a < 6
        · obtain ⟨r, r', e, e', h1, h2, h3⟩ := q_fewest h hc how hth ch kf bz rw' hk hp h6
          rw [k6, if_neg (nI_ge (by omega) (by omega)), pk_mul, nI_add, show p * 6 + a = 6 * p + a by omega, e, jx_b, decide_eq_true (by omega), if_pos rfl, e', jx_b]
          exact ⟨_, _, rfl, rfl, h1, h2, h3⟩
        · rw [k6, if_pos (nI_le (by omega) ha), decide_eq_false (by omega), if_neg ff]
          exact ⟨_, _, rfl, rfl, rfl, Or.inr rfl, hk⟩
end CU
