/-! texts: the reference's reading; what the class's page means -/
def lastv (o : Option Nat) : Int32 := match o with
  | none => -1
  | some l => nI l
theorem prun_congr {cd np : Nat → Int32} {n : Nat} (h : ∀ j, j < n → np j = cd j) : ∀ k, k ≤ n → prun np k = prun cd k := by
  intro k
  induction k with
  | zero => intro _; rfl
  | succ k ih => intro hk; rw [prun_S, prun_S, ih (by omega), h k (by omega)]
theorem flt_congr {cd np : Nat → Int32} {n k : Nat} (h : ∀ j, j < n → np j = cd j) (hf : flt np n k) : flt cd n k :=
  ⟨hf.1, by rw [← prun_congr h k hf.1]; exact hf.2.1, fun hk => by rw [← prun_congr h (k + 1) (by omega)]; exact hf.2.2 hk⟩
theorem z_readPage {np nr : Nat → Int32} {n : Nat} (hn : n ≤ 24) : ∃ r, pf_X7_readPage (nI n) np nr = some r ∧ ∃ k, r.1 = nI k ∧ flt np n k ∧ (k = n → ∃ st, prun np n = some st ∧ ∀ j, j < 12 → r.2 (96 + j) = nI (st.1 j)) ∧ ∀ j, j < 96 → r.2 j = nr j := by
  obtain ⟨r1, e1, h1, h1'⟩ := jx_loop0 (step := pf_X7_readPage_s1) (fun k s => s.1 = nI k ∧ (∀ j, j < k → s.2 (96 + j) = 0) ∧ ∀ j, j < 96 → s.2 j = nr j) (fun r => (∀ j, j < 12 → r (96 + j) = 0) ∧ ∀ j, j < 96 → r j = nr j) 12 (by omega) ((0 : Int32), nr) ⟨rfl, fun j hj => absurd hj (Nat.not_lt_zero _), fun j _ => rfl⟩ (by
    rintro k ⟨z, G⟩ hk ⟨rfl, g1, g2⟩
    dsimp only at g1 g2
    unfold pf_X7_readPage_s1
    dsimp only
    by_cases h12 : 12 ≤ k
    · rw [k12, if_pos (nI_le h12 (by omega))]
      have : k = 12 := by omega
      subst this
      exact Or.inl ⟨_, rfl, g1, g2⟩
    · rw [k12, if_neg (nI_ge (by omega) (by omega)), show (96 : Int32) = nI 96 from rfl, nI_add, jx_gk _ (by omega) (by omega), nI_clamp (by omega), nI_1]
      refine Or.inr ⟨by omega, _, rfl, rfl, fun j hj => ?_, fun j hj => ?_⟩
      · dsimp only
        by_cases hjk : j = k
        · rw [hjk, pk_us]
        · rw [pk_un (by omega)]; exact g1 j (by omega)
      · dsimp only
        rw [pk_un (by omega)]; exact g2 j hj)
  obtain ⟨r, e, hr⟩ := jx_loop0 (step := pf_X7_readPage_s2 (nI n) np) (fun i s => (∃ st, prun np i = some st ∧ i ≤ n ∧ s.1 = nI i ∧ s.2.1 = lastv st.2 ∧ s.2.2.1 = 1 ∧ (∀ j, j < 12 → s.2.2.2 (96 + j) = nI (st.1 j)) ∧ ∀ j, j < 96 → s.2.2.2 j = nr j) ∨ (∃ k, i = k + 1 ∧ k < n ∧ s.1 = nI k ∧ s.2.2.1 = 0 ∧ flt np n k ∧ ∀ j, j < 96 → s.2.2.2 j = nr j)) (fun r => ∃ k, r.1 = nI k ∧ flt np n k ∧ (k = n → ∃ st, prun np n = some st ∧ ∀ j, j < 12 → r.2 (96 + j) = nI (st.1 j)) ∧ ∀ j, j < 96 → r.2 j = nr j) (n + 1) (by omega) ((0 : Int32), (-1 : Int32), (1 : Int32), r1) (Or.inl ⟨_, rfl, Nat.zero_le _, rfl, rfl, rfl, h1, h1'⟩) (by
    rintro i ⟨a, b, c, G⟩ hi hinv
    rcases hinv with ⟨st, h0, hin, rfl, rfl, rfl, g1, g2⟩ | ⟨k, rfl, hk, rfl, rfl, hf, g2⟩
    · dsimp only at g1 g2
      obtain ⟨o1, o2, o3⟩ := prun_ok np i st h0
      have hne : prun np i ≠ none := by rw [h0]; simp
      unfold pf_X7_readPage_s2
      dsimp only
      rw [if_neg n1n0]
      by_cases hi2 : i = n
      · subst hi2
        rw [if_pos (nI_le (Nat.le_refl _) (by omega))]
        exact Or.inl ⟨_, rfl, i, rfl, ⟨Nat.le_refl _, hne, fun hh => absurd hh (Nat.lt_irrefl _)⟩, fun _ => ⟨st, h0, g1⟩, g2⟩
      · rw [if_neg (nI_ge (by omega) (by omega)), jx_gk _ (by omega) (by omega), nI_clamp (by omega)]
        have hfail : pstep (np i) st = none → flt np n i := fun hp => ⟨by omega, hne, fun _ => (by rw [prun_S, h0]; exact hp)⟩
        right
        refine ⟨by omega, ?_⟩
        rcases itm_spec (np i) with ⟨ei, _, e2⟩ | ⟨t, ht, ei, _, e2, c43, c42⟩
        · rw [e2, jx_b, if_pos rfl]
          cases hs : st.2 with
          | none =>
            have hp : pstep (np i) st = none := by unfold pstep; rw [ei]; dsimp only; rw [hs]
            rw [show lastv none = -1 from rfl, if_pos rfl, jx_b, if_pos rfl, jx_b, k0, nI_add]
            exact ⟨_, rfl, Or.inr ⟨i, rfl, by omega, rfl, rfl, hfail hp, g2⟩⟩
          | some l =>
            obtain ⟨l1, l2⟩ := o3 l hs
            rw [show lastv (some l) = nI l from rfl, if_neg (nm0 l (by omega))]
            by_cases h43 : np i = 43
            · have hsg : sgn (np i) = 2 := by unfold sgn; rw [if_pos h43]
              have hp : pstep (np i) st = some (updN st.1 l 2, none) := by unfold pstep; rw [ei]; dsimp only; rw [hs]; dsimp only; rw [hsg, if_neg (by omega)]
              rw [if_pos h43, if_neg (fun hh => hh h43), jx_b, show (96 : Int32) = nI 96 from rfl, nI_add, jx_gk _ (by omega) (by omega), jx_b, if_neg n1n0, jx_b, nI_clamp (by omega), nI_1]
              refine ⟨_, rfl, Or.inl ⟨_, by rw [prun_S, h0]; exact hp, by omega, rfl, rfl, rfl, fun j hj => ?_, fun j hj => ?_⟩⟩
              · dsimp only
                by_cases hjl : j = l
                · rw [hjl, pk_us, updN_s]; rfl
                · rw [pk_un (by omega), updN_n hjl]; exact g1 j hj
              · dsimp only; rw [pk_un (by omega)]; exact g2 j hj
            · rw [if_neg h43]
              by_cases h42 : np i = 42
              · have hsg : sgn (np i) = 3 := by unfold sgn; rw [if_neg h43, if_pos h42]
                have hp : pstep (np i) st = some (updN st.1 l 3, none) := by unfold pstep; rw [ei]; dsimp only; rw [hs]; dsimp only; rw [hsg, if_neg (by omega)]
                rw [if_neg (fun hh => hh h42), if_pos h43, jx_b, show (96 : Int32) = nI 96 from rfl, nI_add, jx_gk _ (by omega) (by omega), jx_b, if_neg n1n0, jx_b, nI_clamp (by omega), nI_1]
                refine ⟨_, rfl, Or.inl ⟨_, by rw [prun_S, h0]; exact hp, by omega, rfl, rfl, rfl, fun j hj => ?_, fun j hj => ?_⟩⟩
                · dsimp only
                  by_cases hjl : j = l
                  · rw [hjl, pk_us, updN_s]; rfl
                  · rw [pk_un (by omega), updN_n hjl]; exact g1 j hj
                · dsimp only; rw [pk_un (by omega)]; exact g2 j hj
              · have hsg : sgn (np i) = 1 := by unfold sgn; rw [if_neg h43, if_neg h42]
                have hp : pstep (np i) st = none := by unfold pstep; rw [ei]; dsimp only; rw [hs]; dsimp only; rw [if_pos hsg]
                rw [if_pos h42, jx_b, if_pos rfl, jx_b, k0, nI_add]
                exact ⟨_, rfl, Or.inr ⟨i, rfl, by omega, rfl, rfl, hfail hp, g2⟩⟩
        · rw [e2, jx_b, if_neg (nm0 t (by omega)), show (96 : Int32) = nI 96 from rfl, nI_add, jx_gk _ (by omega) (by omega), nI_clamp (by omega)]
          have o1t := o1 t
          by_cases hz : st.1 t = 0
          · have hp : pstep (np i) st = some (updN st.1 t 1, some t) := by unfold pstep; rw [ei]; dsimp only; rw [if_pos hz]
            rw [if_neg (by rw [g1 t ht, hz]; exact fun hh => hh rfl), jx_gk _ (by omega) (by omega), jx_b, if_neg n1n0, jx_b, nI_1]
            refine ⟨_, rfl, Or.inl ⟨_, by rw [prun_S, h0]; exact hp, by omega, rfl, rfl, rfl, fun j hj => ?_, fun j hj => ?_⟩⟩
            · dsimp only
              by_cases hjl : j = t
              · rw [hjl, pk_us, updN_s]; rfl
              · rw [pk_un (by omega), updN_n hjl]; exact g1 j hj
            · dsimp only; rw [pk_un (by omega)]; exact g2 j hj
          · have hp : pstep (np i) st = none := by unfold pstep; rw [ei]; dsimp only; rw [if_neg hz]
            rw [if_pos (by rw [g1 t ht, k0, nI_eq (by omega) (by omega)]; exact hz)]
            have key : ((if lastv st.2 = (-1 : Int32) then some (lastv st.2, (0 : Int32), G) else (if np i = (43 : Int32) then ((if ¬ np i = (43 : Int32) then some (3 : Int32) else some (2 : Int32)) : Option Int32).bind fun j11 => (jx_gd (jx_in (nI 96 + lastv st.2) 108)).bind fun _ => some ((-1 : Int32), (1 : Int32), (upd G ((nI 96 + lastv st.2)).toNatClampNeg j11)) else (if ¬ np i = (42 : Int32) then some (lastv st.2, (0 : Int32), G) else ((if ¬ np i = (43 : Int32) then some (3 : Int32) else some (2 : Int32)) : Option Int32).bind fun j12 => (jx_gd (jx_in (nI 96 + lastv st.2) 108)).bind fun _ => some ((-1 : Int32), (1 : Int32), (upd G ((nI 96 + lastv st.2)).toNatClampNeg j12))))) : Option (Int32 × Int32 × (Nat → Int32))) = some (lastv st.2, (0 : Int32), G) := by
              by_cases hl : lastv st.2 = -1
              · rw [if_pos hl]
              · rw [if_neg hl, if_neg c43, if_pos c42]
            rw [key, jx_b, if_pos rfl, jx_b, k0, nI_add]
            exact ⟨_, rfl, Or.inr ⟨i, rfl, by omega, rfl, rfl, hfail hp, g2⟩⟩
    · dsimp only at g2
      unfold pf_X7_readPage_s2
      dsimp only
      rw [if_pos rfl]
      exact Or.inl ⟨_, rfl, k, rfl, hf, fun hh => absurd hh (by omega), g2⟩)
  exact ⟨_, by unfold pf_X7_readPage; rw [e1, jx_b, e, jx_b], hr⟩
theorem l_one (n : Nat) (hn : n < 64) {i : Nat} (hi : i < 64) : bl ((1 : Int64) <<< ((nI n).toInt64 &&& 63)) i = decide (i = n) := by
  rw [l_shl n hn _ hi, l_1 (by omega)]
  rcases Nat.lt_trichotomy i n with h | h | h
  · simp [show ¬ n ≤ i by omega, show ¬ i = n by omega]
  · subst h; simp
  · simp [show ¬ i - n = 0 by omega, show ¬ i = n by omega]
theorem z_rowsFor {i r : Nat} (hi : i < 12) (hr : r ≤ 3) : ∃ x, pf_X4_rowsFor (nI i) (nI r) = some x ∧ ∀ j, j < 64 → bl x j = (decide (j % 12 = i) && decide (j / 12 < r)) := by
  obtain ⟨x, e, hx⟩ := jx_loop0 (step := pf_X4_rowsFor_s1 (nI i) (nI r)) (fun k s => s.2 = nI k ∧ ∀ j, j < 64 → bl s.1 j = (decide (j % 12 = i) && decide (j / 12 < k))) (fun x => ∀ j, j < 64 → bl x j = (decide (j % 12 = i) && decide (j / 12 < r))) r (by omega) ((0 : Int64), (0 : Int32)) ⟨rfl, fun j _ => by rw [l_0, decide_eq_false (Nat.not_lt_zero _), Bool.and_false]⟩ (by
    rintro k ⟨x, z⟩ hk ⟨rfl, hb⟩
    dsimp only at hb
    unfold pf_X4_rowsFor_s1
    dsimp only
    by_cases hkr : k = r
    · subst hkr
      rw [if_pos (nI_le (Nat.le_refl _) (by omega))]
      exact Or.inl ⟨_, rfl, hb⟩
    · rw [if_neg (nI_ge (by omega) (by omega)), k12, pk_mul, nI_add, nI_1]
      refine Or.inr ⟨by omega, _, rfl, rfl, fun j hj => ?_⟩
      dsimp only
      rw [l_or, hb j hj, l_one _ (by omega) hj]
      by_cases hji : j % 12 = i
      · rw [decide_eq_true hji, Bool.true_and, Bool.true_and]
        by_cases hjk : j / 12 = k
        · rw [decide_eq_true (show j = k * 12 + i by omega), Bool.or_true, decide_eq_true (by omega)]
        · rw [decide_eq_false (show ¬ j = k * 12 + i by omega), Bool.or_false, dlt hjk]
      · rw [decide_eq_false hji, Bool.false_and, Bool.false_and, decide_eq_false (show ¬ j = k * 12 + i by omega)]; rfl)
  exact ⟨x, by unfold pf_X4_rowsFor; rw [e, jx_b], hx⟩
theorem rOK_congr {x : Int64} {f g : Nat → Nat} (h : ∀ i, i < 12 → f i = g i) (hx : rOK x f) : rOK x g := fun j hj => by
  rw [hx j hj, h (j % 12) (by omega)]
def gf (cd : Nat → Int32) (n k : Nat) (st : (Nat → Nat) × Option Nat) (i : Nat) : Nat := if st.2 = some i then (if k < n then sgn (cd k) else 1) else st.1 i
theorem gf_y {cd : Nat → Int32} {n k : Nat} {st : (Nat → Nat) × Option Nat} {i : Nat} (h : st.2 = some i) : gf cd n k st i = if k < n then sgn (cd k) else 1 := if_pos h
theorem gf_n {cd : Nat → Int32} {n k : Nat} {st : (Nat → Nat) × Option Nat} {i : Nat} (h : ¬ st.2 = some i) : gf cd n k st i = st.1 i := if_neg h
theorem z_meaning {cd : Nat → Int32} {n : Nat} (hn : n ≤ 24) {sn : (Nat → Nat) × Option Nat} (hs : prun cd n = some sn) : ∃ x, pf_X2_meaning (nI n) cd = some x ∧ rOK x sn.1 := by
  obtain ⟨x, e, hx⟩ := jx_loop0 (step := pf_X2_meaning_s1 (nI n) cd) (fun k s => s.2 = nI k ∧ ∃ st, prun cd k = some st ∧ rOK s.1 (gf cd n k st)) (fun x => rOK x sn.1) n (by omega) ((0 : Int64), (0 : Int32)) ⟨rfl, _, rfl, fun j _ => by
      rw [gf_n (show ¬ ((fun _ => 0, none) : (Nat → Nat) × Option Nat).2 = some (j % 12) from fun hh => by cases hh)]
      show bl 0 j = (decide (j < 36) && decide (j / 12 < 0))
      rw [l_0, decide_eq_false (Nat.not_lt_zero _), Bool.and_false]⟩ (by
    rintro k ⟨x, z⟩ hk ⟨rfl, st, h0, hb⟩
    dsimp only at hb
    obtain ⟨o1, o2, o3⟩ := prun_ok cd k st h0
    unfold pf_X2_meaning_s1
    dsimp only
    by_cases hkn : k = n
    · subst hkn
      rw [if_pos (nI_le (Nat.le_refl _) (by omega))]
      refine Or.inl ⟨_, rfl, rOK_congr (fun i hi => ?_) hb⟩
      rw [h0] at hs
      rw [← Option.some.inj hs]
      by_cases hl : st.2 = some i
      · rw [gf_y hl, if_neg (Nat.lt_irrefl _), (o3 i hl).2]
      · rw [gf_n hl]
    · rw [if_neg (nI_ge (by omega) (by omega)), jx_gk _ (by omega) (by omega), nI_clamp (by omega)]
      have hnn : prun cd (k + 1) ≠ none := fun hh => by
        have := prun_none (show k + 1 ≤ n by omega) hh
        rw [hs] at this; cases this
      have h1 : prun cd (k + 1) = pstep (cd k) st := by rw [prun_S, h0]; rfl
      right
      refine ⟨by omega, ?_⟩
      rcases itm_spec (cd k) with ⟨ei, e1, _⟩ | ⟨i, hi, ei, e1, _, c43, c42⟩
      · rw [e1, jx_b, if_pos rfl, jx_b, nI_1]
        refine ⟨_, rfl, rfl, ?_⟩
        unfold pstep at h1
        rw [ei] at h1
        dsimp only at h1
        cases hst : st.2 with
        | none => rw [hst] at h1; exact absurd h1 hnn
        | some l =>
          rw [hst] at h1
          dsimp only at h1
          by_cases hsg : sgn (cd k) = 1
          · rw [if_pos hsg] at h1; exact absurd h1 hnn
          · rw [if_neg hsg] at h1
            refine ⟨_, h1, rOK_congr (fun j hj => ?_) hb⟩
            rw [gf_n (st := (updN st.1 l (sgn (cd k)), none)) (i := j) (fun hh => by cases hh)]
            by_cases hjl : j = l
            · rw [hjl, gf_y hst, if_pos (by omega)]; exact updN_s.symm
            · rw [gf_n (fun hh => hjl (by rw [hst] at hh; exact (Option.some.inj hh).symm))]; exact (updN_n hjl).symm
      · have hsg1 : sgn (cd k) = 1 := by unfold sgn; rw [if_neg c43, if_neg c42]
        unfold pstep at h1
        rw [ei] at h1
        dsimp only at h1
        by_cases hz : st.1 i = 0
        · rw [if_pos hz] at h1
          have hj6 : ((if nI n ≤ nI k + 1 then some (1 : Int32) else (jx_gd (jx_in (nI k + 1) 24)).bind fun _ => (pf_X2_reachOf (cd ((nI k + 1)).toNatClampNeg)).bind fun r7 => some r7) : Option Int32) = some (nI (if k + 1 < n then sgn (cd (k + 1)) else 1)) := by
            rw [nI_1]
            by_cases hk1 : k + 1 < n
            · rw [if_neg (nI_ge hk1 (by omega)), jx_gk _ (by omega) (by omega), nI_clamp (by omega), z_reachOf, jx_b, if_pos hk1]
            · rw [if_pos (nI_le (by omega) (by omega)), if_neg hk1]; rfl
          have hr3 : (if k + 1 < n then sgn (cd (k + 1)) else 1) ≤ 3 := by
            split
            · exact (sgn_le _).2
            · omega
          rw [e1, jx_b, if_neg (nm0 i (by omega)), hj6, jx_b]
          generalize hrr : (if k + 1 < n then sgn (cd (k + 1)) else 1) = r at hr3 ⊢
          obtain ⟨y, ey, hy⟩ := z_rowsFor hi hr3
          rw [ey, jx_b, jx_b, nI_1]
          refine ⟨_, rfl, rfl, _, h1, fun j hj => ?_⟩
          show bl (x ||| y) j = _
          rw [l_or, hb j hj, hy j hj]
          have hm : j % 12 < 12 := by omega
          by_cases hji : j % 12 = i
          · have hn2 : ¬ st.2 = some i := fun hh => by have := (o3 i hh).2; omega
            rw [hji, gf_n hn2, hz, decide_eq_false (Nat.not_lt_zero _), Bool.and_false, Bool.false_or, decide_eq_true rfl, Bool.true_and, gf_y (st := (updN st.1 i 1, some i)) rfl, hrr]
            by_cases hj36 : j < 36
            · rw [decide_eq_true hj36, Bool.true_and]
            · rw [decide_eq_false hj36, Bool.false_and, decide_eq_false (by omega)]
          · rw [decide_eq_false hji, Bool.false_and, Bool.or_false, gf_n (st := (updN st.1 i 1, some i)) (show ¬ some i = some (j % 12) from fun hh => hji (Option.some.inj hh).symm), show ((updN st.1 i 1, some i) : (Nat → Nat) × Option Nat).1 (j % 12) = st.1 (j % 12) from updN_n hji]
            by_cases hl : st.2 = some (j % 12)
            · rw [gf_y hl, if_pos (by omega), hsg1, (o3 _ hl).2]
            · rw [gf_n hl]
        · rw [if_neg hz] at h1; exact absurd h1 hnn)
  exact ⟨x, by unfold pf_X2_meaning; rw [e, jx_b], hx⟩
theorem q_fault {cd np nr : Nat → Int32} {n : Nat} (hn : n ≤ 24) (h : ∀ j, j < n → np j = cd j) : ∃ r r', pf_X6_fault (nI n) cd = some r ∧ pf_X7_fault (nI n) np nr = some r' ∧ r = r'.1 ∧ ∀ j, j < 96 → r'.2 j = nr j := by
  obtain ⟨k, e, hk⟩ := z_firstFault (cd := cd) hn
  obtain ⟨r', e', k', h1, h2, h3, h4⟩ := z_readPage (np := np) (nr := nr) hn
  unfold pf_X6_fault pf_X7_fault
  rw [e, e', jx_b, jx_b]
  exact ⟨_, _, rfl, rfl, by dsimp only; rw [h1, flt_uniq hk (flt_congr h h2)], h4⟩
