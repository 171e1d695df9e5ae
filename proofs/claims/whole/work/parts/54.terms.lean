/-! terms: found, read, compared: alike -/
def TR (B : Nat) (te : Nat → Nat → Nat) (bs : Int32) (br : Nat → Int64) (nt : Int32) (nr : Nat → Int32) : Prop := B ≤ 8 ∧ (∀ t, t < B → ∀ i, i < 12 → te t i ≤ 3) ∧ bs = nI B ∧ nt = nI B ∧ (∀ t, t < B → rOK (br t) (te t)) ∧ ∀ t, t < B → ∀ i, i < 12 → nr (12 * t + i) = nI (te t i)
theorem z_isT {B : Nat} (hB : B ≤ 8) (y : Int32) : ∃ b : Bool, pf_X0_has (nI B) y = some (bi b) ∧ pf_X7_isTerms (nI B) y = some (bi b) ∧ (b = true → ∃ t, t < B ∧ y = nI t) := by
  unfold pf_X0_has pf_X7_isTerms
  by_cases hy : y < 0
  · rw [if_pos hy, within_neg hy, jx_b]
    exact ⟨false, rfl, jx_g _ (by decide), fun hh => by cases hh⟩
  · obtain ⟨t, ht, rfl⟩ := nI_of hy
    rw [if_neg hy]
    rcases Nat.eq_zero_or_pos B with hz | hz
    · subst hz
      rw [if_pos (show nI 0 ≤ nI t from nI_le (Nat.zero_le _) ht), show nI 0 - 1 = -1 by decide, within_m1, jx_b]
      exact ⟨false, rfl, jx_g _ (by decide), fun hh => by cases hh⟩
    · rw [show nI B - 1 = nI (B - 1) by rw [k1, pk_sub (by omega)], within_nI ht (by omega), jx_b]
      by_cases htB : t < B
      · rw [if_neg (nI_ge htB (by omega)), decide_eq_true (show t ≤ B - 1 by omega)]
        exact ⟨true, rfl, jx_g _ (by decide), fun _ => ⟨t, htB, rfl⟩⟩
      · rw [if_pos (show nI B ≤ nI t from nI_le (by omega) ht), decide_eq_false (show ¬ t ≤ B - 1 by omega)]
        exact ⟨false, rfl, jx_g _ (by decide), fun hh => by cases hh⟩
theorem rOK_eq {x y : Int64} {f g : Nat → Nat} (hx : rOK x f) (hy : rOK y g) (hf : ∀ i, i < 12 → f i ≤ 3) (hg : ∀ i, i < 12 → g i ≤ 3) : x = y ↔ ∀ i, i < 12 → f i = g i := by
  constructor
  · intro h i hi
    have a := hf i hi
    have b := hg i hi
    have key : ∀ r, r < 3 → (r < f i ↔ r < g i) := by
      intro r hr
      have h1 := hx (12 * r + i) (by omega)
      have h2 := hy (12 * r + i) (by omega)
      rw [h, h2, decide_eq_true (by omega), Bool.true_and, Bool.true_and, show (12 * r + i) / 12 = r by omega, show (12 * r + i) % 12 = i by omega] at h1
      constructor
      · intro hh; rw [decide_eq_true hh] at h1; exact of_decide_eq_true h1
      · intro hh; rw [decide_eq_true hh] at h1; exact of_decide_eq_true h1.symm
    have := key 0 (by omega); have := key 1 (by omega); have := key 2 (by omega)
    omega
  · intro h
    exact l_ext (fun j hj => by rw [hx j hj, hy j hj, h (j % 12) (by omega)])
def lk (te : Nat → Nat → Nat) (f : Nat → Nat) (t : Nat) : Bool := (List.range 12).all (fun i => decide (te t i = f i))
theorem lk_iff {te : Nat → Nat → Nat} {f : Nat → Nat} {t : Nat} : lk te f t = true ↔ ∀ i, i < 12 → te t i = f i := by
  unfold lk
  rw [List.all_eq_true]
  constructor
  · intro h i hi; exact of_decide_eq_true (h i (List.mem_range.mpr hi))
  · intro h i hi; exact decide_eq_true (h i (List.mem_range.mp hi))
def fnd (te : Nat → Nat → Nat) (f : Nat → Nat) (B : Nat) (r : Int32) : Prop := (r = -1 ∧ ∀ t, t < B → lk te f t = false) ∨ ∃ t, t < B ∧ r = nI t ∧ lk te f t = true ∧ ∀ t', t' < t → lk te f t' = false
theorem fnd_uniq {te : Nat → Nat → Nat} {f : Nat → Nat} {B : Nat} {r r' : Int32} (h : fnd te f B r) (h' : fnd te f B r') : r = r' := by
  rcases h with ⟨h1, h2⟩ | ⟨t, h1, h2, h3, h4⟩
  · rcases h' with ⟨g1, g2⟩ | ⟨t, g1, g2, g3, g4⟩
    · rw [h1, g1]
    · rw [h2 t g1] at g3; cases g3
  · rcases h' with ⟨g1, g2⟩ | ⟨t', g1, g2, g3, g4⟩
    · rw [g2 t h1] at h3; cases h3
    · rcases Nat.lt_trichotomy t t' with hl | hl | hl
      · rw [g4 t hl] at h3; cases h3
      · rw [h2, g2, hl]
      · rw [h4 t' hl] at g3; cases g3
theorem z_find {B : Nat} {te : Nat → Nat → Nat} {br : Nat → Int64} (hB : B ≤ 8) (ho : ∀ t, t < B → ∀ i, i < 12 → te t i ≤ 3) (hb : ∀ t, t < B → rOK (br t) (te t)) {w : Int64} {f : Nat → Nat} (hw : rOK w f) (hf : ∀ i, i < 12 → f i ≤ 3) : ∃ r, pf_X0_find (nI B) br w = some r ∧ fnd te f B r := by
  obtain ⟨r, e, hr⟩ := jx_loop0 (step := pf_X0_find_s1 (nI B) br w) (fun n s => s = nI n ∧ ∀ t, t < n → lk te f t = false) (fun r => (r = .inl () ∧ ∀ t, t < B → lk te f t = false) ∨ ∃ t, t < B ∧ r = .inr (nI t) ∧ lk te f t = true ∧ ∀ t', t' < t → lk te f t' = false) B (by omega) 0 ⟨rfl, fun t ht => absurd ht (Nat.not_lt_zero _)⟩ (by
    rintro n s hn ⟨rfl, hinv⟩
    unfold pf_X0_find_s1
    by_cases hnB : n = B
    · subst hnB
      rw [if_pos (nI_le (Nat.le_refl _) (by omega))]
      exact Or.inl ⟨_, rfl, Or.inl ⟨rfl, hinv⟩⟩
    · rw [if_neg (nI_ge (by omega) (by omega)), jx_gk _ (by omega) (by omega), nI_clamp (by omega), nI_1]
      have heq := rOK_eq (hb n (by omega)) hw (ho n (by omega)) hf
      cases hl : lk te f n with
      | true =>
        rw [if_neg (fun hh => hh (l_ne.mpr (heq.mpr (lk_iff.mp hl))))]
        exact Or.inl ⟨_, rfl, Or.inr ⟨n, by omega, rfl, hl, hinv⟩⟩
      | false =>
        rw [if_pos (fun hh => by have := lk_iff.mpr (heq.mp (l_ne.mp hh)); rw [hl] at this; cases this)]
        refine Or.inr ⟨by omega, _, rfl, rfl, fun t ht => ?_⟩
        by_cases htn : t = n
        · rw [htn]; exact hl
        · exact hinv t (by omega))
  unfold pf_X0_find
  rw [e, jx_b]
  rcases hr with ⟨rfl, hr⟩ | ⟨t, h1, rfl, h2, h3⟩
  · exact ⟨_, rfl, Or.inl ⟨rfl, hr⟩⟩
  · exact ⟨_, rfl, Or.inr ⟨t, h1, rfl, h2, h3⟩⟩
theorem z_likeRead {B : Nat} {te : Nat → Nat → Nat} {nr : Nat → Int32} (hB : B ≤ 8) (ho : ∀ t, t < B → ∀ i, i < 12 → te t i ≤ 3) (hb : ∀ t, t < B → ∀ i, i < 12 → nr (12 * t + i) = nI (te t i)) {f : Nat → Nat} (hw : ∀ i, i < 12 → nr (96 + i) = nI (f i)) (hf : ∀ i, i < 12 → f i ≤ 3) : ∃ r, pf_X7_likeRead (nI B) nr 96 = some r ∧ fnd te f B r := by
  have inner : ∀ t, t < B → jx_iter (pf_X7_likeRead_s2 nr 96 (nI t)) jx_F ((1 : Int32), (0 : Int32)) = some (bi (lk te f t)) := by
    intro t ht
    obtain ⟨r, e, hr⟩ := jx_loop0 (step := pf_X7_likeRead_s2 nr 96 (nI t)) (fun n s => s = (bi ((List.range n).all (fun i => decide (te t i = f i))), nI n)) (fun r => r = bi (lk te f t)) 12 (by omega) ((1 : Int32), (0 : Int32)) rfl (by
      rintro n s hn rfl
      unfold pf_X7_likeRead_s2
      dsimp only
      by_cases h12 : 12 ≤ n
      · rw [k12, if_pos (nI_le h12 (by omega))]
        have : n = 12 := by omega
        subst this
        exact Or.inl ⟨_, rfl, rfl⟩
      · rw [k12, if_neg (nI_ge (by omega) (by omega)), bi0]
        refine Or.inr ⟨by omega, _, ?_, rfl⟩
        rw [List.range_succ, List.all_append]
        have a := ho t ht n (by omega)
        have b := hf n (by omega)
        cases (List.range n).all (fun i => decide (te t i = f i)) with
        | false => rw [if_neg ff, jx_b, nI_1, Bool.false_and]; rfl
        | true =>
          rw [if_pos rfl, pk_mul, nI_add, jx_gk _ (by omega) (by omega), show (96 : Int32) = nI 96 from rfl, nI_add, jx_gk _ (by omega) (by omega), nI_clamp (by omega), nI_clamp (by omega), nI_1, Bool.true_and]
          by_cases he : te t n = f n
          · rw [if_neg (by rw [hb t ht n (by omega), hw n (by omega), he]; exact fun hh => hh rfl), jx_b]
            simp [he]; rfl
          · rw [if_pos (by rw [hb t ht n (by omega), hw n (by omega), nI_eq (by omega) (by omega)]; exact he), jx_b]
            simp [he]; rfl)
    rw [e, hr]
  obtain ⟨r, e, hr⟩ := jx_loop0 (step := pf_X7_likeRead_s1 (nI B) nr 96) (fun n s => s = nI n ∧ ∀ t, t < n → lk te f t = false) (fun r => (r = .inl () ∧ ∀ t, t < B → lk te f t = false) ∨ ∃ t, t < B ∧ r = .inr (nI t) ∧ lk te f t = true ∧ ∀ t', t' < t → lk te f t' = false) B (by omega) 0 ⟨rfl, fun t ht => absurd ht (Nat.not_lt_zero _)⟩ (by
    rintro n s hn ⟨rfl, hinv⟩
    unfold pf_X7_likeRead_s1
    by_cases hnB : n = B
    · subst hnB
      rw [if_pos (nI_le (Nat.le_refl _) (by omega))]
      exact Or.inl ⟨_, rfl, Or.inl ⟨rfl, hinv⟩⟩
    · rw [if_neg (nI_ge (by omega) (by omega)), inner n (by omega), jx_b, bi0, nI_1]
      cases hl : lk te f n with
      | true =>
        rw [if_pos rfl]
        exact Or.inl ⟨_, rfl, Or.inr ⟨n, by omega, rfl, hl, hinv⟩⟩
      | false =>
        rw [if_neg ff]
        refine Or.inr ⟨by omega, _, rfl, rfl, fun t ht => ?_⟩
        by_cases htn : t = n
        · rw [htn]; exact hl
        · exact hinv t (by omega))
  unfold pf_X7_likeRead
  rw [e, jx_b]
  rcases hr with ⟨rfl, hr⟩ | ⟨t, h1, rfl, h2, h3⟩
  · exact ⟨_, rfl, Or.inl ⟨rfl, hr⟩⟩
  · exact ⟨_, rfl, Or.inr ⟨t, h1, rfl, h2, h3⟩⟩
theorem z_copy {B : Nat} (hB : B < 8) (nr : Nat → Int32) : ∃ x, jx_iter (pf_X7_terms_s2 (nI B)) jx_F ((0 : Int32), nr) = some x ∧ (∀ i, i < 12 → x (12 * B + i) = nr (96 + i)) ∧ ∀ j, j < 12 * B → x j = nr j := by
  obtain ⟨x, e, x1, x2, x3⟩ := jx_loop0 (step := pf_X7_terms_s2 (nI B)) (fun n s => s.1 = nI n ∧ (∀ i, i < n → s.2 (12 * B + i) = nr (96 + i)) ∧ (∀ i, i < 12 → s.2 (96 + i) = nr (96 + i)) ∧ ∀ j, j < 12 * B → s.2 j = nr j) (fun x => (∀ i, i < 12 → x (12 * B + i) = nr (96 + i)) ∧ (∀ i, i < 12 → x (96 + i) = nr (96 + i)) ∧ ∀ j, j < 12 * B → x j = nr j) 12 (by omega) ((0 : Int32), nr) ⟨rfl, fun i hi => absurd hi (Nat.not_lt_zero _), fun i _ => rfl, fun j _ => rfl⟩ (by
    rintro n ⟨z, G⟩ hn ⟨rfl, g1, g2, g3⟩
    dsimp only at g1 g2 g3
    unfold pf_X7_terms_s2
    dsimp only
    by_cases h12 : 12 ≤ n
    · rw [k12, if_pos (nI_le h12 (by omega))]
      have : n = 12 := by omega
      subst this
      exact Or.inl ⟨_, rfl, g1, g2, g3⟩
    · rw [k12, if_neg (nI_ge (by omega) (by omega)), show (96 : Int32) = nI 96 from rfl, nI_add, jx_gk _ (by omega) (by omega), pk_mul, nI_add, jx_gk _ (by omega) (by omega), nI_clamp (by omega), nI_clamp (by omega), nI_1, g2 n (by omega)]
      refine Or.inr ⟨by omega, _, rfl, rfl, fun i hi => ?_, fun i hi => ?_, fun j hj => ?_⟩
      · dsimp only
        by_cases hin : i = n
        · rw [hin, pk_us]
        · rw [pk_un (by omega)]; exact g1 i (by omega)
      · dsimp only; rw [pk_un (by omega)]; exact g2 i hi
      · dsimp only; rw [pk_un (by omega)]; exact g3 j hj)
  exact ⟨x, e, x1, x3⟩
/-- terms answers alike -/
theorem q_terms {B : Nat} {te : Nat → Nat → Nat} {bs : Int32} {br : Nat → Int64} {nt : Int32} {nr cd np : Nat → Int32} (hT : TR B te bs br nt nr) {n : Nat} (hn : n ≤ 24) (h : ∀ j, j < n → np j = cd j) : ∃ r r' B' te', pf_X6_terms (nI n) cd bs br = some r ∧ pf_X7_terms (nI n) np nt nr = some r' ∧ r.1 = r'.1 ∧ r.2.1 = r'.2.1 ∧ (r.2.1 = nI n ∨ r.2.1 = nI 0) ∧ TR B' te' r.2.2.1 r.2.2.2 r'.2.2.1 r'.2.2.2 ∧ B ≤ B' ∧ ∀ t, t < B → te' t = te t := by
  obtain ⟨hB, ho, rfl, rfl, hX, hM⟩ := id hT
  unfold pf_X6_terms pf_X7_terms
  by_cases hz : n = 0
  · subst hz
    rw [if_pos (show nI 0 = 0 from rfl), if_pos (show nI 0 = 0 from rfl)]
    exact ⟨_, _, B, te, rfl, rfl, rfl, rfl, Or.inl rfl, hT, Nat.le_refl _, fun t _ => rfl⟩
  · have hz' : ¬ nI n = 0 := by rw [k0, nI_eq (by omega) (by omega)]; exact hz
    obtain ⟨k, e, hk⟩ := z_firstFault (cd := cd) hn
    obtain ⟨r1, e1, k', h1, h2, h3, h4⟩ := z_readPage (np := np) (nr := nr) hn
    have hkk := flt_uniq hk (flt_congr h h2)
    subst hkk
    have hT4 : ∀ t, t < B → ∀ i, i < 12 → r1.2 (12 * t + i) = nI (te t i) := fun t ht i hi => by rw [h4 _ (by omega)]; exact hM t ht i hi
    rw [if_neg hz', if_neg hz', e, jx_b, e1, jx_b, h1]
    by_cases hkn : k = n
    · obtain ⟨st, hst, hst2⟩ := h3 hkn
      rw [prun_congr h n (Nat.le_refl _)] at hst
      obtain ⟨o1, o2, o3⟩ := prun_ok cd n st hst
      obtain ⟨w, ew, hw⟩ := z_meaning hn hst
      obtain ⟨rf, ef, hrf⟩ := z_find hB ho hX hw (fun i _ => o1 i)
      obtain ⟨rl, el, hrl⟩ := z_likeRead hB ho hT4 hst2 (fun i _ => o1 i)
      have hfl := fnd_uniq hrf hrl
      subst hfl
      rw [if_pos (by rw [hkn]; exact nI_le (Nat.le_refl _) (by omega)), if_pos (by rw [hkn]; exact nI_le (Nat.le_refl _) (by omega)), ew, jx_b, el, jx_b]
      unfold pf_X0_numberFor
      rw [ef, jx_b]
      by_cases hr1 : rf = -1
      · rw [if_neg (show ¬ ¬ rf = -1 from fun hh => hh hr1), if_neg (show ¬ ¬ rf = -1 from fun hh => hh hr1)]
        by_cases hB8 : B = 8
        · subst hB8
          rw [if_neg (show ¬ nI 8 < (8 : Int32) by decide), jx_b]
          dsimp only
          rw [if_neg (show ¬ ¬ rf = -1 from fun hh => hh hr1), if_neg (show ¬ ¬ nI 8 = (8 : Int32) from fun hh => hh rfl)]
          exact ⟨_, _, 8, te, rfl, rfl, rfl, rfl, Or.inl rfl, ⟨hB, ho, rfl, rfl, hX, hT4⟩, Nat.le_refl _, fun t _ => rfl⟩
        · obtain ⟨x, ex, x1, x2⟩ := z_copy (show B < 8 by omega) r1.2
          have hnr : ¬ nI (B + 1) - 1 = -1 := by rw [nI_pred]; exact nm0 B (by omega)
          rw [k8, if_pos (show nI B < nI 8 from nI_lt (by omega) (by omega)), jx_gk _ (by omega) (by omega), jx_b, nI_1]
          dsimp only
          rw [if_pos hnr, if_pos (show ¬ nI B = nI 8 by rw [nI_eq (by omega) (by omega)]; exact hB8), if_pos hr1, ex, jx_b]
          refine ⟨_, _, B + 1, fun t => if t = B then st.1 else te t, rfl, rfl, rfl, rfl, Or.inr rfl, ⟨by omega, fun t ht i hi => ?_, rfl, rfl, fun t ht => ?_, fun t ht i hi => ?_⟩, Nat.le_succ _, fun t ht => if_neg (by omega)⟩
          · dsimp only
            by_cases htB : t = B
            · rw [if_pos htB]; exact o1 i
            · rw [if_neg htB]; exact ho t (by omega) i hi
          · dsimp only
            rw [nI_clamp (by omega)]
            by_cases htB : t = B
            · rw [htB, pk_uLs, if_pos rfl]; exact hw
            · rw [pk_uLn htB, if_neg htB]; exact hX t (by omega)
          · dsimp only
            by_cases htB : t = B
            · rw [htB, x1 i hi, if_pos rfl]; exact hst2 i hi
            · rw [x2 _ (by omega), if_neg htB]; exact hT4 t (by omega) i hi
      · rw [if_pos hr1, if_pos hr1, jx_b, if_pos hr1, if_neg hr1]
        unfold pf_X2_wipe
        rw [jx_b]
        exact ⟨_, _, B, te, rfl, rfl, rfl, rfl, Or.inr rfl, ⟨hB, ho, rfl, rfl, hX, hT4⟩, Nat.le_refl _, fun t _ => rfl⟩
    · have hlt : k < n := by have := hk.1; omega
      rw [if_neg (nI_ge hlt (by omega)), if_neg (nI_ge hlt (by omega))]
      exact ⟨_, _, B, te, rfl, rfl, rfl, rfl, Or.inl rfl, ⟨hB, ho, rfl, rfl, hX, hT4⟩, Nat.le_refl _, fun t _ => rfl⟩
theorem q_reach {B : Nat} {te : Nat → Nat → Nat} {bs : Int32} {br : Nat → Int64} {nt : Int32} {nr : Nat → Int32} (hT : TR B te bs br nt nr) (x y : Int32) : ∃ r, pf_X6_reach bs br x y = some r ∧ pf_X7_reach nt nr x y = some r := by
  obtain ⟨hB, ho, rfl, rfl, hX, hM⟩ := hT
  unfold pf_X6_reach pf_X7_reach
  obtain ⟨b, e1, e2, hb⟩ := z_isT hB x
  rw [e1, e2, jx_b, jx_b, bin, bin]
  cases b with
  | false => rw [if_neg ff, if_neg ff]; exact ⟨_, rfl, rfl⟩
  | true =>
    obtain ⟨t, ht, rfl⟩ := hb rfl
    rw [if_pos rfl, if_pos rfl]
    rcases ix y 12 (by omega) with hy | ⟨i, hi, rfl⟩
    · rw [(item_out hy).1, (item_out hy).2, jx_b, jx_b, if_pos rfl, if_pos rfl]
      exact ⟨_, rfl, rfl⟩
    · rw [(item_in hi).1, (item_in hi).2, jx_b, jx_b, if_neg n1n0, if_neg n1n0, jx_gk _ (by omega) (by omega), nI_clamp (by omega), z_greatest _ hi, jx_b, gr_own (hX t ht) hi (ho t ht i hi), k12, pk_mul, nI_add, jx_gk _ (by omega) (by omega), nI_clamp (by omega), hM t ht i hi]
      exact ⟨_, rfl, rfl⟩
theorem z_looser {x y : Int64} {f g : Nat → Nat} (hx : rOK x f) (hy : rOK y g) (hf : ∀ i, i < 12 → f i ≤ 3) (hg : ∀ i, i < 12 → g i ≤ 3) : x &&& (y ^^^ -1) = 0 ↔ ∀ i, i < 12 → f i ≤ g i := by
  constructor
  · intro h i hi
    have key : ∀ r, r < 3 → r < f i → r < g i := by
      intro r hr hrf
      have : bl (x &&& (y ^^^ -1)) (12 * r + i) = false := by rw [h, l_0]
      rw [l_and, l_xor, l_m1 _ (by omega), hx _ (by omega), hy _ (by omega), show (12 * r + i) / 12 = r by omega, show (12 * r + i) % 12 = i by omega, decide_eq_true (by omega), decide_eq_true hrf] at this
      by_cases hh : r < g i
      · exact hh
      · rw [decide_eq_false hh] at this; cases this
    have a := hf i hi
    have b := hg i hi
    have := key 0 (by omega); have := key 1 (by omega); have := key 2 (by omega)
    omega
  · intro h
    refine l_zero (fun j hj => ?_)
    rw [l_and, l_xor, l_m1 _ hj, hx j hj, hy j hj]
    by_cases h36 : j < 36
    · rw [decide_eq_true h36]
      by_cases hf2 : j / 12 < f (j % 12)
      · have := h (j % 12) (by omega)
        rw [decide_eq_true hf2, decide_eq_true (show j / 12 < g (j % 12) by omega)]; rfl
      · rw [decide_eq_false hf2]; rfl
    · rw [decide_eq_false h36]; rfl
theorem z_isLooser {nr : Nat → Int32} {a b : Nat} {f g : Nat → Nat} (ha : a < 8) (hb : b < 8) (hA : ∀ i, i < 12 → nr (12 * a + i) = nI (f i)) (hB : ∀ i, i < 12 → nr (12 * b + i) = nI (g i)) (hf : ∀ i, i < 12 → f i ≤ 3) (hg : ∀ i, i < 12 → g i ≤ 3) : pf_X7_isLooser nr (nI a) (nI b) = some (bi ((List.range 12).all (fun i => decide (f i ≤ g i)))) := by
  obtain ⟨r, e, hr⟩ := jx_loop0 (step := pf_X7_isLooser_s1 nr (nI a) (nI b)) (fun n s => s = (bi ((List.range n).all (fun i => decide (f i ≤ g i))), nI n)) (fun r => r = bi ((List.range 12).all (fun i => decide (f i ≤ g i)))) 12 (by omega) ((1 : Int32), (0 : Int32)) rfl (by
    rintro n s hn rfl
    unfold pf_X7_isLooser_s1
    dsimp only
    by_cases h12 : 12 ≤ n
    · rw [k12, if_pos (nI_le h12 (by omega))]
      have : n = 12 := by omega
      subst this
      exact Or.inl ⟨_, rfl, rfl⟩
    · rw [k12, if_neg (nI_ge (by omega) (by omega)), bi0]
      refine Or.inr ⟨by omega, _, ?_, rfl⟩
      rw [List.range_succ, List.all_append]
      have u := hf n (by omega)
      have v := hg n (by omega)
      cases (List.range n).all (fun i => decide (f i ≤ g i)) with
      | false => rw [if_neg ff, jx_b, nI_1, Bool.false_and]; rfl
      | true =>
        rw [if_pos rfl, pk_mul, nI_add, jx_gk _ (by omega) (by omega), pk_mul, nI_add, jx_gk _ (by omega) (by omega), nI_clamp (by omega), nI_clamp (by omega), nI_1, Bool.true_and]
        by_cases he : f n ≤ g n
        · rw [if_neg (by rw [hB n (by omega), hA n (by omega)]; exact nI_nlt he (by omega)), jx_b]
          simp [he]; rfl
        · rw [if_pos (by rw [hB n (by omega), hA n (by omega)]; exact nI_lt (by omega) (by omega)), jx_b]
          simp [he]; rfl)
  unfold pf_X7_isLooser
  rw [e, jx_b, hr]
  cases (List.range 12).all (fun i => decide (f i ≤ g i))
  · exact jx_g _ (by decide)
  · exact jx_g _ (by decide)
theorem z_puts1 {nr : Nat → Int32} {a b : Nat} {f g : Nat → Nat} (ha : a < 8) (hb : b < 8) (hA : ∀ i, i < 12 → nr (12 * a + i) = nI (f i)) (hB : ∀ i, i < 12 → nr (12 * b + i) = nI (g i)) (hf : ∀ i, i < 12 → f i ≤ 3) (hg : ∀ i, i < 12 → g i ≤ 3) (c : Bool) : ∃ x, jx_iter (pf_X7_puts_s1 (nI a) (nI b) (bi c)) jx_F ((0 : Int32), nr) = some x ∧ (∀ i, i < 12 → x (96 + i) = nI (if c = true then max (f i) (g i) else min (f i) (g i))) ∧ ∀ j, j < 96 → x j = nr j := by
  obtain ⟨x, e, x1, x2⟩ := jx_loop0 (step := pf_X7_puts_s1 (nI a) (nI b) (bi c)) (fun n s => s.1 = nI n ∧ (∀ i, i < n → s.2 (96 + i) = nI (if c = true then max (f i) (g i) else min (f i) (g i))) ∧ ∀ j, j < 96 → s.2 j = nr j) (fun x => (∀ i, i < 12 → x (96 + i) = nI (if c = true then max (f i) (g i) else min (f i) (g i))) ∧ ∀ j, j < 96 → x j = nr j) 12 (by omega) ((0 : Int32), nr) ⟨rfl, fun i hi => absurd hi (Nat.not_lt_zero _), fun j _ => rfl⟩ (by
    rintro n ⟨z, G⟩ hn ⟨rfl, g1, g2⟩
    dsimp only at g1 g2
    unfold pf_X7_puts_s1
    dsimp only
    by_cases h12 : 12 ≤ n
    · rw [k12, if_pos (nI_le h12 (by omega))]
      have : n = 12 := by omega
      subst this
      exact Or.inl ⟨_, rfl, g1, g2⟩
    · have u := hf n (by omega)
      have v := hg n (by omega)
      have eA : G (12 * a + n) = nI (f n) := by rw [g2 _ (by omega)]; exact hA n (by omega)
      have eB : G (12 * b + n) = nI (g n) := by rw [g2 _ (by omega)]; exact hB n (by omega)
      rw [k12, if_neg (nI_ge (by omega) (by omega)), pk_mul, nI_add, jx_gk _ (by omega) (by omega), pk_mul, nI_add, jx_gk _ (by omega) (by omega), nI_clamp (by omega), nI_clamp (by omega)]
      right
      refine ⟨by omega, (nI (n + 1), upd G (96 + n) (nI (if c = true then max (f n) (g n) else min (f n) (g n)))), ?_, rfl, fun i hi => ?_, fun j hj => ?_⟩
      · by_cases hle : f n ≤ g n
        · rw [if_pos (show G (12 * a + n) ≤ G (12 * b + n) by rw [eA, eB]; exact nI_le hle (by omega)), jx_b, eA, eB]
          cases c
          · rw [if_neg (show ¬ ¬ (0 : Int32) = bi false from fun hh => hh rfl), jx_b, show (96 : Int32) = nI 96 from rfl, nI_add, jx_gk _ (by omega) (by omega), nI_clamp (by omega), nI_1, if_neg ff, Nat.min_eq_left hle]
          · rw [if_pos (show ¬ (0 : Int32) = bi true by decide), jx_b, show (96 : Int32) = nI 96 from rfl, nI_add, jx_gk _ (by omega) (by omega), nI_clamp (by omega), nI_1, if_pos rfl, Nat.max_eq_right hle]
        · rw [if_neg (show ¬ G (12 * a + n) ≤ G (12 * b + n) by rw [eA, eB]; exact nI_ge (by omega) (by omega)), jx_b, eA, eB]
          cases c
          · rw [if_pos (show ¬ (1 : Int32) = bi false by decide), jx_b, show (96 : Int32) = nI 96 from rfl, nI_add, jx_gk _ (by omega) (by omega), nI_clamp (by omega), nI_1, if_neg ff, Nat.min_eq_right (by omega)]
          · rw [if_neg (show ¬ ¬ (1 : Int32) = bi true from fun hh => hh rfl), jx_b, show (96 : Int32) = nI 96 from rfl, nI_add, jx_gk _ (by omega) (by omega), nI_clamp (by omega), nI_1, if_pos rfl, Nat.max_eq_left (by omega)]
      · dsimp only
        by_cases hin : i = n
        · rw [hin, pk_us]
        · rw [pk_un (by omega)]; exact g1 i (by omega)
      · dsimp only; rw [pk_un (by omega)]; exact g2 j hj)
  exact ⟨x, e, x1, x2⟩
theorem rOK_or {x y : Int64} {f g : Nat → Nat} (hx : rOK x f) (hy : rOK y g) : rOK (x ||| y) (fun i => max (f i) (g i)) := fun j hj => by
  rw [l_or, hx j hj, hy j hj]
  by_cases h36 : j < 36
  · rw [decide_eq_true h36, Bool.true_and, Bool.true_and, Bool.true_and]
    refine b_iff ?_
    rw [Bool.or_eq_true, decide_eq_true_eq, decide_eq_true_eq, decide_eq_true_eq]
    show (j / 12 < f (j % 12) ∨ j / 12 < g (j % 12)) ↔ j / 12 < max (f (j % 12)) (g (j % 12))
    omega
  · rw [decide_eq_false h36]; rfl
theorem rOK_and {x y : Int64} {f g : Nat → Nat} (hx : rOK x f) (hy : rOK y g) : rOK (x &&& y) (fun i => min (f i) (g i)) := fun j hj => by
  rw [l_and, hx j hj, hy j hj]
  by_cases h36 : j < 36
  · rw [decide_eq_true h36, Bool.true_and, Bool.true_and, Bool.true_and]
    refine b_iff ?_
    rw [Bool.and_eq_true, decide_eq_true_eq, decide_eq_true_eq, decide_eq_true_eq]
    show (j / 12 < f (j % 12) ∧ j / 12 < g (j % 12)) ↔ j / 12 < min (f (j % 12)) (g (j % 12))
    omega
  · rw [decide_eq_false h36]; rfl
/-- two answers alike -/
theorem q_two {B : Nat} {te : Nat → Nat → Nat} {bs : Int32} {br : Nat → Int64} {nt : Int32} {nr : Nat → Int32} (hT : TR B te bs br nt nr) (x y z : Int32) : ∃ r r', pf_X6_two bs br x y z = some r ∧ pf_X7_two nt nr x y z = some r' ∧ r = r'.1 ∧ ∀ j, j < 96 → r'.2 j = nr j := by
  obtain ⟨hB, ho, rfl, rfl, hX, hM⟩ := hT
  unfold pf_X6_two pf_X7_two
  obtain ⟨b1, e1, e1', h1⟩ := z_isT hB x
  obtain ⟨b2, e2, e2', h2⟩ := z_isT hB y
  rw [e1, e1', jx_b, jx_b, bi0, bi0]
  cases b1 with
  | false => rw [if_neg ff, if_neg ff]; exact ⟨_, _, rfl, rfl, rfl, fun j _ => rfl⟩
  | true =>
    obtain ⟨a, ha, rfl⟩ := h1 rfl
    rw [if_pos rfl, if_pos rfl, e2, e2', jx_b, jx_b, bin, bin]
    cases b2 with
    | false => rw [if_neg ff, if_neg ff]; exact ⟨_, _, rfl, rfl, rfl, fun j _ => rfl⟩
    | true =>
      obtain ⟨b, hb, rfl⟩ := h2 rfl
      rw [if_pos rfl, if_pos rfl, jx_gk _ (by omega) (by omega), jx_gk _ (by omega) (by omega), nI_clamp (by omega), nI_clamp (by omega)]
      have hfa := ho a ha
      have hfb := ho b hb
      rcases ix z 3 (by omega) with hz | ⟨c, hc, rfl⟩
      · have hw : pf_X7_within z 0 2 = some 0 := by
          unfold pf_X7_within
          by_cases h0 : z < 0
          · rw [if_pos h0]
          · have h1 := hz.resolve_left h0
            rw [if_neg h0, if_pos]
            rw [Int32.lt_iff_toInt_lt]
            rw [Int32.le_iff_toInt_le, nI_toInt (by omega)] at h1
            have h2 : (2 : Int32).toInt = 2 := by decide
            omega
        have hne : ∀ k, k < 3 → ¬ z = nI k := by
          intro k hk he
          rw [he] at hz
          rcases hz with hz | hz
          · exact nI_pos (by omega) hz
          · exact nI_ge (by omega) (by omega) hz
        rw [hw, jx_b, if_neg (show ¬ ¬ (0 : Int32) = 0 from fun hh => hh rfl), if_neg (show ¬ z = (0 : Int32) from hne 0 (by omega)), if_neg (show ¬ z = (1 : Int32) from hne 1 (by omega)), if_neg (show ¬ z = (2 : Int32) from hne 2 (by omega))]
        exact ⟨_, _, rfl, rfl, rfl, fun j _ => rfl⟩
      · have hw : pf_X7_within (nI c) 0 2 = some 1 := by
          rw [show (2 : Int32) = nI 2 from rfl, within_nI (by omega) (by omega), decide_eq_true (by omega)]; rfl
        rw [hw, jx_b, if_pos n1n0]
        rcases (show c = 0 ∨ c = 1 ∨ c = 2 by omega) with rfl | rfl | rfl
        · have hL1 := z_isLooser (nr := nr) (show a < 8 by omega) (show b < 8 by omega) (hM a ha) (hM b hb) hfa hfb
          have hL2 := z_isLooser (nr := nr) (show b < 8 by omega) (show a < 8 by omega) (hM b hb) (hM a ha) hfb hfa
          have all_iff : ∀ f g : Nat → Nat, ((List.range 12).all (fun i => decide (f i ≤ g i)) = true ↔ ∀ i, i < 12 → f i ≤ g i) := fun f g => by
            rw [List.all_eq_true]
            constructor
            · intro h i hi; exact of_decide_eq_true (h i (List.mem_range.mpr hi))
            · intro h i hi; exact decide_eq_true (h i (List.mem_range.mp hi))
          have q1 : ((if ¬ (lg_cmp (br a &&& (br b ^^^ -1)) 0) = 0 then some (0 : Int32) else some (1 : Int32)) : Option Int32) = some (bi ((List.range 12).all (fun i => decide (te a i ≤ te b i)))) := by
            have h3 := z_looser (hX a ha) (hX b hb) hfa hfb
            cases hl : (List.range 12).all (fun i => decide (te a i ≤ te b i)) with
            | true => rw [if_neg (fun hh => hh (l_ne.mpr (h3.mpr ((all_iff _ _).mp hl))))]; rfl
            | false => rw [if_pos (fun hh => by have := (all_iff _ _).mpr (h3.mp (l_ne.mp hh)); rw [hl] at this; cases this)]; rfl
          have q2 : ((if ¬ (lg_cmp (br b &&& (br a ^^^ -1)) 0) = 0 then some (0 : Int32) else some (2 : Int32)) : Option Int32) = some (if (List.range 12).all (fun i => decide (te b i ≤ te a i)) = true then 2 else 0) := by
            have h3 := z_looser (hX b hb) (hX a ha) hfb hfa
            cases hl : (List.range 12).all (fun i => decide (te b i ≤ te a i)) with
            | true => rw [if_neg (fun hh => hh (l_ne.mpr (h3.mpr ((all_iff _ _).mp hl)))), if_pos rfl]
            | false => rw [if_pos (fun hh => by have := (all_iff _ _).mpr (h3.mp (l_ne.mp hh)); rw [hl] at this; cases this), if_neg ff]
          rw [if_pos (by decide), if_neg (by decide), hL1, hL2, jx_b]
          unfold pf_X4_looser
          rw [q1, jx_b, q2, jx_b, jx_b]
          generalize (List.range 12).all (fun i => decide (te a i ≤ te b i)) = c1
          generalize (List.range 12).all (fun i => decide (te b i ≤ te a i)) = c2
          cases c1 <;> cases c2 <;> exact ⟨_, _, rfl, rfl, rfl, fun j _ => rfl⟩
        · obtain ⟨x1, ex, p1, p2⟩ := z_puts1 (nr := nr) (show a < 8 by omega) (show b < 8 by omega) (hM a ha) (hM b hb) hfa hfb true
          obtain ⟨r, er, hr⟩ := z_find hB ho hX (rOK_or (hX a ha) (hX b hb)) (fun i hi => Nat.max_le.mpr ⟨hfa i hi, hfb i hi⟩)
          obtain ⟨r', er', hr'⟩ := z_likeRead (te := te) (nr := x1) hB ho (fun t ht i hi => by rw [p2 _ (by omega)]; exact hM t ht i hi) (f := fun i => max (te a i) (te b i)) (fun i hi => by rw [p1 i hi, if_pos rfl]) (fun i hi => Nat.max_le.mpr ⟨hfa i hi, hfb i hi⟩)
          rw [if_neg (by decide), if_pos (by decide), if_pos (by decide), if_neg (by decide), er, jx_b, jx_b]
          unfold pf_X7_puts
          rw [show jx_iter (pf_X7_puts_s1 (nI a) (nI b) (1 : Int32)) jx_F ((0 : Int32), nr) = some x1 from ex, jx_b, er', jx_b, jx_b]
          exact ⟨_, _, rfl, rfl, fnd_uniq hr hr', p2⟩
        · obtain ⟨x1, ex, p1, p2⟩ := z_puts1 (nr := nr) (show a < 8 by omega) (show b < 8 by omega) (hM a ha) (hM b hb) hfa hfb false
          obtain ⟨r, er, hr⟩ := z_find hB ho hX (rOK_and (hX a ha) (hX b hb)) (fun i hi => Nat.le_trans (Nat.min_le_left _ _) (hfa i hi))
          obtain ⟨r', er', hr'⟩ := z_likeRead (te := te) (nr := x1) hB ho (fun t ht i hi => by rw [p2 _ (by omega)]; exact hM t ht i hi) (f := fun i => min (te a i) (te b i)) (fun i hi => by rw [p1 i hi, if_neg ff]) (fun i hi => Nat.le_trans (Nat.min_le_left _ _) (hfa i hi))
          rw [if_neg (by decide), if_neg (by decide), if_pos (by decide), if_pos (by decide), if_pos (by decide), er, jx_b, jx_b]
          unfold pf_X7_puts
          rw [show jx_iter (pf_X7_puts_s1 (nI a) (nI b) (0 : Int32)) jx_F ((0 : Int32), nr) = some x1 from ex, jx_b, er', jx_b, jx_b]
          exact ⟨_, _, rfl, rfl, fnd_uniq hr hr', p2⟩
