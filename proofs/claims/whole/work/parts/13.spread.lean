/-! what comes to each part, as the class spreads it -/
def rOK (x : Int64) (f : Nat → Nat) : Prop := ∀ j, j < 64 → bl x j = (decide (j < 36) && decide (j / 12 < f (j % 12)))
def tOK (x : Int64) (k : Nat) : Prop := ∀ j, j < 64 → bl x j = (decide (j < 36) && (decide (k ≠ 0) && decide (k ≤ j / 12 + 1)))
def eE (S : Int32) (kd : Nat → Nat → Nat) (k p q : Nat) : Bool := bt S p && (bt S q && (decide (kd p q ≠ 0) && decide (kd p q ≤ k)))
def sG (S : Int32) (o : Nat → Nat → Nat) (i k p : Nat) : Bool := bt S p && decide (k ≤ o p i)
def sX (S : Int32) (o : Nat → Nat → Nat) (i k p : Nat) : Bool := bt S p && decide (o p i = k)
def cb (S : Int32) (o kd : Nat → Nat → Nat) (p j : Nat) : Bool := decide (j < 36) && cl (eE S kd (j / 12 + 1)) (sG S o (j % 12) (j / 12 + 1)) p
theorem cb_S {S : Int32} {o kd : Nat → Nat → Nat} {p j : Nat} (h : cb S o kd p j = true) : bt S p = true := by
  unfold cb at h
  rw [Bool.and_eq_true] at h
  refine cl_sub (X := fun p => bt S p = true) (fun p hp => ?_) (fun p q _ hE _ => ?_) h.2
  · unfold sG at hp; rw [Bool.and_eq_true] at hp; exact hp.1
  · unfold eE at hE; rw [Bool.and_eq_true] at hE; exact hE.1
theorem any_succ (f : Nat → Bool) (n : Nat) : (List.range (n + 1)).any f = ((List.range n).any f || f n) := by
  rw [List.range_succ, List.any_append]; simp
theorem z_getsMore (th ar : Nat → Int64) {u : Nat} (hu : u < 8) : ∃ r, pf_X3_getsMore th ar (nI u) = some r ∧ (∀ p, p ≠ u → r.2 p = ar p) ∧ (∀ j, j < 64 → bl (r.2 u) j = (bl (ar u) j || (List.range 8).any (fun q => bl (ar q) j && bl (th (u * 8 + q)) j))) ∧ (r.1 = 0 → r.2 u = ar u) := by
  obtain ⟨x, e, h⟩ := jx_loop0 (step := pf_X3_getsMore_s1 th ar (nI u)) (fun i s => s.2 = nI i ∧ ∀ j, j < 64 → bl s.1 j = (bl (ar u) j || (List.range i).any (fun q => bl (ar q) j && bl (th (u * 8 + q)) j))) (fun x => ∀ j, j < 64 → bl x j = (bl (ar u) j || (List.range 8).any (fun q => bl (ar q) j && bl (th (u * 8 + q)) j))) 8 (by omega) (ar u, 0) ⟨rfl, fun j hj => by simp⟩ (by
    rintro i ⟨y, z⟩ hi ⟨rfl, hb⟩
    dsimp only at hb
    unfold pf_X3_getsMore_s1
    dsimp only
    by_cases h8 : 8 ≤ i
    · rw [k8, if_pos (nI_le h8 (by omega))]
      have : i = 8 := by omega
      subst this
      exact Or.inl ⟨_, rfl, hb⟩
    · rw [k8, if_neg (nI_ge (by omega) (by omega)), jx_gk _ (by omega) (by omega), pk_mul, nI_add, jx_gk _ (by omega) (by omega), nI_clamp (by omega), nI_clamp (by omega), nI_1]
      refine Or.inr ⟨by omega, _, rfl, rfl, fun j hj => ?_⟩
      dsimp only
      rw [l_or, l_and, hb j hj, any_succ, Bool.or_assoc])
  have hx : pf_X3_getsMore th ar (nI u) = (if lg_cmp x (ar u) = 0 then some ((0 : Int32), vp_updL ar u x) else some ((1 : Int32), vp_updL ar u x)) := by
    unfold pf_X3_getsMore
    rw [jx_gk _ hu (by omega), nI_clamp (by omega), e, jx_b, jx_gk _ hu (by omega)]
  have hu1 : vp_updL ar u x u = x := pk_uLs
  by_cases hc : lg_cmp x (ar u) = 0
  · rw [if_pos hc] at hx
    exact ⟨_, hx, fun p hp => pk_uLn hp, fun j hj => by dsimp only; rw [hu1]; exact h j hj, fun _ => by dsimp only; rw [hu1]; exact l_ne.mp hc⟩
  · rw [if_neg hc] at hx
    exact ⟨_, hx, fun p hp => pk_uLn hp, fun j hj => by dsimp only; rw [hu1]; exact h j hj, fun h1 => absurd h1 n1n0⟩
section SPR
variable {S : Int32} {o kd : Nat → Nat → Nat} {ow th : Nat → Int64}
def Snd (S : Int32) (o kd : Nat → Nat → Nat) (R : Nat → Int64) : Prop := ∀ p, p < 8 → ∀ j, j < 64 → bl (R p) j = true → cb S o kd p j = true
def Cov (S : Int32) (o kd : Nat → Nat → Nat) (n : Nat) (R : Nat → Int64) : Prop := ∀ p, p < 8 → ∀ j, j < 36 → rch (eE S kd (j / 12 + 1)) (sG S o (j % 12) (j / 12 + 1)) n p = true → bl (R p) j = true
theorem z_spread1 (how : ∀ p, p < 8 → bt S p = true → rOK (ow p) (o p)) (ar : Nat → Int64) : ∃ r, jx_iter (pf_X3_spread_s1 ow S) jx_F ((0 : Int32), ar) = some r ∧ Snd S o kd r ∧ Cov S o kd 0 r := by
  obtain ⟨r, e, h⟩ := jx_loop0 (step := pf_X3_spread_s1 ow S) (fun i s => s.1 = nI i ∧ ∀ p, p < i → s.2 p = if bt S p then ow p else 0) (fun r => ∀ p, p < 8 → r p = if bt S p then ow p else 0) 8 (by omega) ((0 : Int32), ar) ⟨rfl, fun p hp => by omega⟩ (by
    rintro i ⟨z, R⟩ hi ⟨rfl, hb⟩
    dsimp only at hb
    unfold pf_X3_spread_s1
    dsimp only
    by_cases h8 : 8 ≤ i
    · rw [k8, if_pos (nI_le h8 (by omega))]
      have : i = 8 := by omega
      subst this
      exact Or.inl ⟨_, rfl, hb⟩
    · rw [k8, if_neg (nI_ge (by omega) (by omega)), z_isSet32 S (by omega), jx_b, bi0]
      refine Or.inr ⟨by omega, (nI (i + 1), vp_updL R i (if bt S i then ow i else 0)), ?_, rfl, fun p hp => ?_⟩
      · cases hs : bt S i
        · rw [if_neg ff, jx_b, jx_gk _ (by omega) (by omega), nI_clamp (by omega), nI_1, if_neg ff]
        · rw [if_pos rfl, jx_gk _ (by omega) (by omega), jx_b, jx_gk _ (by omega) (by omega), nI_clamp (by omega), nI_1, if_pos rfl]
      · dsimp only
        by_cases hp2 : p = i
        · subst hp2; rw [pk_uLs]
        · rw [pk_uLn hp2]; exact hb p (by omega))
  refine ⟨r, e, fun p hp j hj hbl => ?_, fun p hp j hj hr => ?_⟩
  · rw [h p hp] at hbl
    cases hs : bt S p with
    | false => rw [hs, if_neg (by decide), l_0] at hbl; cases hbl
    | true =>
      rw [hs, if_pos rfl, how p hp hs j hj, Bool.and_eq_true, decide_eq_true_eq, decide_eq_true_eq] at hbl
      unfold cb
      rw [decide_eq_true hbl.1, Bool.true_and]
      refine cl_src ?_
      unfold sG
      rw [hs, Bool.true_and, decide_eq_true_eq]
      omega
  · have hr : sG S o (j % 12) (j / 12 + 1) p = true := hr
    unfold sG at hr
    rw [Bool.and_eq_true, decide_eq_true_eq] at hr
    rw [h p hp, if_pos hr.1, how p hp hr.1 j (by omega), decide_eq_true hj, Bool.true_and, decide_eq_true_eq]
    omega
theorem z_spread3 (hth : ∀ p q, p < 8 → q < 8 → bt S p = true → bt S q = true → tOK (th (p * 8 + q)) (kd p q)) (R0 : Nat → Int64) (h0 : Snd S o kd R0) (n : Nat) (hc : Cov S o kd n R0) : ∃ r, jx_iter (pf_X3_spread_s3 th S) jx_F ((0 : Int32), (0 : Int32), R0) = some r ∧ Snd S o kd r.2 ∧ Cov S o kd (n + 1) r.2 ∧ (r.1 = 0 → ∀ m, Cov S o kd m r.2) := by
  obtain ⟨r, e, h⟩ := jx_loop0 (step := pf_X3_spread_s3 th S) (fun i s => s.2.1 = nI i ∧ Snd S o kd s.2.2 ∧ (∀ p, p < 8 → ∀ j, j < 64 → bl (R0 p) j = true → bl (s.2.2 p) j = true) ∧ (∀ p, p < i → bt S p = true → ∀ q, q < 8 → bt S q = true → ∀ j, j < 36 → kd p q ≠ 0 → kd p q ≤ j / 12 + 1 → bl (R0 q) j = true → bl (s.2.2 p) j = true) ∧ (s.1 = 0 → ∀ p, p < 8 → s.2.2 p = R0 p)) (fun r => Snd S o kd r.2 ∧ (∀ p, p < 8 → ∀ j, j < 64 → bl (R0 p) j = true → bl (r.2 p) j = true) ∧ (∀ p, p < 8 → bt S p = true → ∀ q, q < 8 → bt S q = true → ∀ j, j < 36 → kd p q ≠ 0 → kd p q ≤ j / 12 + 1 → bl (R0 q) j = true → bl (r.2 p) j = true) ∧ (r.1 = 0 → ∀ p, p < 8 → r.2 p = R0 p)) 8 (by omega) ((0 : Int32), (0 : Int32), R0) ⟨rfl, h0, fun p _ j _ h => h, fun p hp => by omega, fun _ p _ => rfl⟩ (by
    rintro i ⟨f, z, R⟩ hi ⟨rfl, hs, hg, hd, hfl⟩
    dsimp only at hs hg hd hfl
    unfold pf_X3_spread_s3
    dsimp only
    by_cases h8 : 8 ≤ i
    · rw [k8, if_pos (nI_le h8 (by omega))]
      have : i = 8 := by omega
      subst this
      exact Or.inl ⟨_, rfl, hs, hg, hd, hfl⟩
    · rw [k8, if_neg (nI_ge (by omega) (by omega)), z_isSet32 S (by omega), jx_b, bi0]
      right
      refine ⟨by omega, ?_⟩
      cases hbs : bt S i with
      | false =>
        refine ⟨(f, nI (i + 1), R), ?_, rfl, hs, hg, fun p hp hpS => ?_, hfl⟩
        · rw [if_neg ff, jx_b, nI_1]
        · by_cases hpi : p = i
          · subst hpi; rw [hbs] at hpS; cases hpS
          · exact hd p (by omega) hpS
      | true =>
        obtain ⟨g, eg, g1, g2, g3⟩ := z_getsMore th R (u := i) (by omega)
        have hmem : ∀ j, j < 64 → (bl (g.2 i) j = true ↔ bl (R i) j = true ∨ ∃ q, q < 8 ∧ bl (R q) j = true ∧ bl (th (i * 8 + q)) j = true) := by
          intro j hj
          rw [g2 j hj]
          simp
        have hin : ∀ p, p < 8 → ∀ j, j < 64 → bl (R p) j = true → bl (g.2 p) j = true := by
          intro p hp j hj hb
          by_cases hpi : p = i
          · subst hpi; exact (hmem j hj).mpr (Or.inl hb)
          · rw [g1 p hpi]; exact hb
        have hs2 : Snd S o kd g.2 := by
          intro p hp j hj hb
          by_cases hpi : p = i
          · subst hpi
            rcases (hmem j hj).mp hb with hb | ⟨q, hq, hb, hbt⟩
            · exact hs p hp j hj hb
            · have hcq := hs q hq j hj hb
              have hSq := cb_S hcq
              have ht := hth p q hp hq hbs hSq j hj
              rw [hbt] at ht
              have ht := ht.symm
              rw [Bool.and_eq_true, Bool.and_eq_true, decide_eq_true_eq, decide_eq_true_eq, decide_eq_true_eq] at ht
              unfold cb at hcq ⊢
              rw [Bool.and_eq_true] at hcq ⊢
              refine ⟨hcq.1, cl_E hp hq ?_ hcq.2⟩
              unfold eE
              rw [hbs, hSq, decide_eq_true ht.2.1, decide_eq_true ht.2.2]; rfl
          · rw [g1 p hpi] at hb; exact hs p hp j hj hb
        have hd2 : ∀ p, p < i + 1 → bt S p = true → ∀ q, q < 8 → bt S q = true → ∀ j, j < 36 → kd p q ≠ 0 → kd p q ≤ j / 12 + 1 → bl (R0 q) j = true → bl (g.2 p) j = true := by
          intro p hp hpS q hq hqS j hj k1' k2' hb
          by_cases hpi : p = i
          · subst hpi
            refine (hmem j (by omega)).mpr (Or.inr ⟨q, hq, hg q hq j (by omega) hb, ?_⟩)
            rw [hth p q (by omega) hq hpS hqS j (by omega), decide_eq_true hj, decide_eq_true k1', decide_eq_true k2']; rfl
          · rw [g1 p hpi]; exact hd p (by omega) hpS q hq hqS j hj k1' k2' hb
        rw [if_pos rfl, eg, jx_b]
        by_cases hz : g.1 = 0
        · refine ⟨(f, nI (i + 1), g.2), ?_, rfl, hs2, fun p hp j hj hb => hin p hp j hj (hg p hp j hj hb), hd2, fun hf p hp => ?_⟩
          · rw [if_pos hz, jx_b, nI_1]
          · by_cases hpi : p = i
            · subst hpi; exact (g3 hz).trans (hfl hf p hp)
            · exact (g1 p hpi).trans (hfl hf p hp)
        · refine ⟨((1 : Int32), nI (i + 1), g.2), ?_, rfl, hs2, fun p hp j hj hb => hin p hp j hj (hg p hp j hj hb), hd2, fun hf => absurd hf n1n0⟩
          rw [if_neg hz, jx_b, nI_1])
  obtain ⟨hs, hg, hd, hfl⟩ := h
  have hcov : ∀ m, Cov S o kd m R0 → Cov S o kd (m + 1) r.2 := by
    intro m hm p hp j hj hr
    rcases rch_S.mp hr with h1 | ⟨q, hq, hE, h1⟩
    · exact hg p hp j (by omega) (hm p hp j hj h1)
    · unfold eE at hE
      rw [Bool.and_eq_true, Bool.and_eq_true, Bool.and_eq_true, decide_eq_true_eq, decide_eq_true_eq] at hE
      exact hd p hp hE.1 q hq hE.2.1 j hj hE.2.2.1 hE.2.2.2 (hm q hq j hj h1)
  refine ⟨r, e, hs, hcov n hc, fun hz => ?_⟩
  have he := hfl hz
  have hb : ∀ m, Cov S o kd m R0 := by
    intro m
    induction m with
    | zero => intro p hp j hj hr; exact hc p hp j hj (rch_up (Nat.zero_le n) hr)
    | succ m ih => intro p hp j hj hr; have := hcov m ih p hp j hj hr; rw [he p hp] at this; exact this
  intro m p hp j hj hr
  rw [he p hp]
  exact hb m p hp j hj hr
theorem z_spread (how : ∀ p, p < 8 → bt S p = true → rOK (ow p) (o p)) (hth : ∀ p q, p < 8 → q < 8 → bt S p = true → bt S q = true → tOK (th (p * 8 + q)) (kd p q)) (ar : Nat → Int64) : ∃ r, pf_X3_spread ow th ar S = some r ∧ ∀ p, p < 8 → ∀ j, j < 64 → bl (r p) j = cb S o kd p j := by
  obtain ⟨R, e1, hs, hc⟩ := z_spread1 (kd := kd) how ar
  obtain ⟨r, e, h1, h2⟩ := jx_loop0 (step := pf_X3_spread_s2 th S) (fun i s => s.2.1 = nI i ∧ Snd S o kd s.2.2 ∧ Cov S o kd i s.2.2 ∧ (s.1 = 0 → ∀ m, Cov S o kd m s.2.2)) (fun r => Snd S o kd r ∧ Cov S o kd 7 r) 8 (by omega) ((1 : Int32), (0 : Int32), R) ⟨rfl, hs, hc, fun h => absurd h n1n0⟩ (by
    rintro i ⟨f, z, Q⟩ hi ⟨rfl, hs, hc, hfl⟩
    dsimp only at hs hc hfl
    unfold pf_X3_spread_s2
    dsimp only
    by_cases hz : f = 0
    · rw [if_pos hz]
      exact Or.inl ⟨_, rfl, hs, hfl hz 7⟩
    · rw [if_neg hz]
      by_cases h8 : 8 ≤ i
      · rw [k8, if_pos (nI_le h8 (by omega))]
        exact Or.inl ⟨_, rfl, hs, fun p hp j hj hr => hc p hp j hj (rch_up (by omega) hr)⟩
      · obtain ⟨r, e, g1, g2, g3⟩ := z_spread3 hth Q hs i hc
        rw [k8, if_neg (nI_ge (by omega) (by omega)), e, jx_b, nI_1]
        exact Or.inr ⟨by omega, _, rfl, rfl, g1, g2, g3⟩)
  refine ⟨r, ?_, fun p hp j hj => ?_⟩
  · unfold pf_X3_spread
    rw [e1, jx_b, e, jx_b]
  · cases hb : bl (r p) j with
    | true => exact (h1 p hp j hj hb).symm
    | false =>
      cases hcb : cb S o kd p j with
      | false => rfl
      | true =>
        unfold cb at hcb
        rw [Bool.and_eq_true, decide_eq_true_eq] at hcb
        rw [h2 p hp j hcb.1 hcb.2] at hb
        cases hb
end SPR
