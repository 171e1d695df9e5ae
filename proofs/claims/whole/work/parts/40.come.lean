/-! what comes at last: by rows (class) and by exact reaches (reference) is the same -/
def S8 (S : Int32) : Prop := ∀ i, 8 ≤ i → bt S i = false
theorem S8_lt {S : Int32} (h : S8 S) {p : Nat} (hp : bt S p = true) : p < 8 := by
  rcases Nat.lt_or_ge p 8 with h1 | h1
  · exact h1
  · rw [h p h1] at hp; cases hp
def cX (S : Int32) (o kd : Nat → Nat → Nat) (i k p : Nat) : Bool := cl (eE S kd k) (sX S o i k) p
theorem cX_S {S : Int32} {o kd : Nat → Nat → Nat} {i k p : Nat} (h : cX S o kd i k p = true) : bt S p = true := by
  refine cl_sub (X := fun p => bt S p = true) (fun p hp => ?_) (fun p q _ hE _ => ?_) h
  · unfold sX at hp; rw [Bool.and_eq_true] at hp; exact hp.1
  · unfold eE at hE; rw [Bool.and_eq_true] at hE; exact hE.1
theorem eE_mono {S : Int32} {kd : Nat → Nat → Nat} {k k' p q : Nat} (hk : k ≤ k') (h : eE S kd k p q = true) : eE S kd k' p q = true := by
  unfold eE at h ⊢
  rw [Bool.and_eq_true, Bool.and_eq_true, Bool.and_eq_true, decide_eq_true_eq, decide_eq_true_eq] at h ⊢
  exact ⟨h.1, h.2.1, h.2.2.1, by omega⟩
theorem clG_X {S : Int32} {o kd : Nat → Nat → Nat} {i k p : Nat} (h8 : S8 S) (ho : ∀ p, bt S p = true → o p i ≤ 3) (h : cl (eE S kd k) (sG S o i k) p = true) : ∃ k', k ≤ k' ∧ k' ≤ 3 ∧ cX S o kd i k' p = true := by
  refine cl_sub (X := fun p => ∃ k', k ≤ k' ∧ k' ≤ 3 ∧ cX S o kd i k' p = true) (fun p hp => ?_) (fun p q hq hE hX => ?_) h
  · unfold sG at hp
    rw [Bool.and_eq_true, decide_eq_true_eq] at hp
    refine ⟨o p i, hp.2, ho p hp.1, cl_src ?_⟩
    unfold sX
    rw [hp.1, decide_eq_true rfl]; rfl
  · obtain ⟨k', h1, h2, h3⟩ := hX
    have hp : bt S p = true := by unfold eE at hE; rw [Bool.and_eq_true] at hE; exact hE.1
    exact ⟨k', h1, h2, cl_E (S8_lt h8 hp) hq (eE_mono h1 hE) h3⟩
theorem clX_G {S : Int32} {o kd : Nat → Nat → Nat} {i k p : Nat} (h8 : S8 S) (h : cX S o kd i k p = true) : cl (eE S kd k) (sG S o i k) p = true := by
  refine cl_sub (X := fun p => cl (eE S kd k) (sG S o i k) p = true) (fun p hp => ?_) (fun p q hq hE hX => ?_) h
  · unfold sX at hp
    rw [Bool.and_eq_true, decide_eq_true_eq] at hp
    refine cl_src ?_
    unfold sG
    rw [hp.1, decide_eq_true (by omega)]; rfl
  · have hp : bt S p = true := by unfold eE at hE; rw [Bool.and_eq_true] at hE; exact hE.1
    exact cl_E (S8_lt h8 hp) hq hE hX
/-- the reach that is held -/
def hd (S : Int32) (o kd : Nat → Nat → Nat) (i p : Nat) : Nat := if cX S o kd i 3 p then 3 else if cX S o kd i 2 p then 2 else if cX S o kd i 1 p then 1 else 0
/-- it is held -/
def hb (S : Int32) (o kd : Nat → Nat → Nat) (i p : Nat) : Bool := (cX S o kd i 1 p || cX S o kd i 2 p) || cX S o kd i 3 p
theorem cb_row {S : Int32} {o kd : Nat → Nat → Nat} {p i r : Nat} (hi : i < 12) (hr : r < 3) : cb S o kd p (r * 12 + i) = cl (eE S kd (r + 1)) (sG S o i (r + 1)) p := by
  unfold cb
  rw [decide_eq_true (by omega), Bool.true_and, show (r * 12 + i) / 12 = r by omega, show (r * 12 + i) % 12 = i by omega]
theorem b_iff {a b : Bool} (h : a = true ↔ b = true) : a = b := by cases a <;> cases b <;> simp_all
theorem cb_hd {S : Int32} {o kd : Nat → Nat → Nat} {i p : Nat} (h8 : S8 S) (hi : i < 12) (ho : ∀ p, bt S p = true → o p i ≤ 3) : (if cb S o kd p (24 + i) then 3 else if cb S o kd p (12 + i) then 2 else if cb S o kd p i then 1 else 0) = hd S o kd i p := by
  have e3 := cb_row (S := S) (o := o) (kd := kd) (p := p) hi (show 2 < 3 by omega)
  have e2 := cb_row (S := S) (o := o) (kd := kd) (p := p) hi (show 1 < 3 by omega)
  have e1 := cb_row (S := S) (o := o) (kd := kd) (p := p) hi (show 0 < 3 by omega)
  rw [show 2 * 12 + i = 24 + i by omega] at e3
  rw [show 1 * 12 + i = 12 + i by omega] at e2
  rw [show 0 * 12 + i = i by omega] at e1
  unfold hd
  have g3 : cb S o kd p (24 + i) = cX S o kd i 3 p := by
    rw [e3]
    refine b_iff ⟨fun h => ?_, fun h => clX_G h8 h⟩
    obtain ⟨k', h1, h2, h3⟩ := clG_X h8 ho h
    rw [show k' = 3 by omega] at h3; exact h3
  rw [g3]
  cases c3 : cX S o kd i 3 p with
  | true => rfl
  | false =>
    have g2 : cb S o kd p (12 + i) = cX S o kd i 2 p := by
      rw [e2]
      refine b_iff ⟨fun h => ?_, fun h => clX_G h8 h⟩
      obtain ⟨k', h1, h2, h3⟩ := clG_X h8 ho h
      rcases (show k' = 2 ∨ k' = 3 by omega) with rfl | rfl
      · exact h3
      · rw [c3] at h3; cases h3
    rw [g2]
    cases c2 : cX S o kd i 2 p with
    | true => rfl
    | false =>
      have g1 : cb S o kd p i = cX S o kd i 1 p := by
        rw [e1]
        refine b_iff ⟨fun h => ?_, fun h => clX_G h8 h⟩
        obtain ⟨k', h1, h2, h3⟩ := clG_X h8 ho h
        rcases (show k' = 1 ∨ k' = 2 ∨ k' = 3 by omega) with rfl | rfl | rfl
        · exact h3
        · rw [c2] at h3; cases h3
        · rw [c3] at h3; cases h3
      rw [g1]
theorem hd_hb {S : Int32} {o kd : Nat → Nat → Nat} {i p : Nat} : hb S o kd i p = decide (hd S o kd i p ≠ 0) := by
  unfold hb hd
  cases cX S o kd i 1 p <;> cases cX S o kd i 2 p <;> cases cX S o kd i 3 p <;> rfl
theorem hd_le {S : Int32} {o kd : Nat → Nat → Nat} {i p : Nat} : hd S o kd i p ≤ 3 := by
  unfold hd
  cases cX S o kd i 1 p <;> cases cX S o kd i 2 p <;> cases cX S o kd i 3 p <;> decide
theorem cb_hb {S : Int32} {o kd : Nat → Nat → Nat} {i p : Nat} (h8 : S8 S) (hi : i < 12) (ho : ∀ p, bt S p = true → o p i ≤ 3) : ((cb S o kd p i || cb S o kd p (12 + i)) || cb S o kd p (24 + i)) = hb S o kd i p := by
  rw [hd_hb, ← cb_hd h8 hi ho]
  cases cb S o kd p i <;> cases cb S o kd p (12 + i) <;> cases cb S o kd p (24 + i) <;> rfl
/-- a duty meets its bar -/
def clsh (S : Int32) (o kd : Nat → Nat → Nat) (p a : Nat) : Bool := hb S o kd a p && hb S o kd (a + 6) p
theorem hb_S {S : Int32} {o kd : Nat → Nat → Nat} {i p : Nat} (h : hb S o kd i p = true) : bt S p = true := by
  unfold hb at h
  rw [Bool.or_eq_true, Bool.or_eq_true] at h
  rcases h with (h | h) | h <;> exact cX_S h
/-- rows that hold just what comes -/
def come (S : Int32) (o kd : Nat → Nat → Nat) (R : Nat → Int64) : Prop := ∀ p, p < 8 → ∀ j, j < 64 → bl (R p) j = cb S o kd p j
theorem z_gr {S : Int32} {o kd : Nat → Nat → Nat} {R : Nat → Int64} {i p : Nat} (h : come S o kd R) (h8 : S8 S) (hi : i < 12) (hp : p < 8) (ho : ∀ p, bt S p = true → o p i ≤ 3) : gr (R p) i = hd S o kd i p := by
  unfold gr
  rw [h p hp _ (by omega), h p hp _ (by omega), h p hp _ (by omega)]
  exact cb_hd h8 hi ho
def oOK (S : Int32) (o : Nat → Nat → Nat) : Prop := ∀ p, bt S p = true → ∀ i, i < 12 → o p i ≤ 3
theorem z_items {S : Int32} {o kd : Nat → Nat → Nat} {R : Nat → Int64} {p : Nat} (h : come S o kd R) (h8 : S8 S) (hp : p < 8) (ho : oOK S o) : ∃ r, pf_X4_itemsIn (R p) = some r ∧ ∀ i, i < 32 → bt r i = (decide (i < 12) && hb S o kd i p) := by
  refine ⟨_, rfl, fun i hi => ?_⟩
  rw [b_and, b_4095 hi, b_of _ hi, l_or, l_or, k12, k24, l_sshr 12 (by omega) _ (by omega), l_sshr 24 (by omega) _ (by omega), if_pos (by omega), if_pos (by omega), h p hp _ (by omega), h p hp _ (by omega), h p hp _ (by omega)]
  by_cases h12 : i < 12
  · rw [decide_eq_true h12, Bool.and_true, Bool.true_and, cb_hb h8 h12 (fun q hq => ho q hq i h12)]
  · rw [decide_eq_false h12, Bool.and_false, Bool.false_and]
theorem z_meeting {S : Int32} {o kd : Nat → Nat → Nat} {R : Nat → Int64} {p : Nat} (h : come S o kd R) (h8 : S8 S) (hp : p < 8) (ho : oOK S o) : ∃ r, pf_X4_meeting (R p) = some r ∧ ∀ i, i < 32 → bt r i = (decide (i < 6) && clsh S o kd p i) := by
  obtain ⟨r, e, hr⟩ := z_items h h8 hp ho
  refine ⟨_, by unfold pf_X4_meeting; rw [e, jx_b], fun i hi => ?_⟩
  rw [b_and, k6, b_sshr 6 (by omega) _ hi, hr i hi]
  by_cases h6 : i < 6
  · rw [if_pos (by omega), hr _ (by omega), decide_eq_true h6, decide_eq_true (by omega), decide_eq_true (by omega), Nat.add_comm 6 i]
    simp [clsh]
  · rw [decide_eq_false h6, Bool.false_and]
    by_cases h26 : 6 + i < 32
    · rw [if_pos h26, hr _ h26, decide_eq_false (show ¬ 6 + i < 12 by omega), Bool.false_and, Bool.and_false]
    · rw [if_neg h26, hr 31 (by omega), decide_eq_false (show ¬ 31 < 12 by omega), Bool.false_and, Bool.and_false]
theorem z_duties {S : Int32} {o kd : Nat → Nat → Nat} {R : Nat → Int64} {p : Nat} (h : come S o kd R) (h8 : S8 S) (hp : p < 8) (ho : oOK S o) : ∃ r, pf_X4_duties (R p) = some r ∧ ∀ i, i < 32 → bt r i = (decide (i < 6) && hb S o kd i p) := by
  obtain ⟨r, e, hr⟩ := z_items h h8 hp ho
  refine ⟨_, by unfold pf_X4_duties; rw [e, jx_b], fun i hi => ?_⟩
  rw [b_and, b_63 hi, hr i hi]
  by_cases h6 : i < 6
  · simp [h6, show i < 12 by omega]
  · simp [h6]
theorem z_bars {S : Int32} {o kd : Nat → Nat → Nat} {R : Nat → Int64} {p : Nat} (h : come S o kd R) (h8 : S8 S) (hp : p < 8) (ho : oOK S o) : ∃ r, pf_X4_bars (R p) = some r ∧ ∀ i, i < 32 → bt r i = (decide (i < 6) && hb S o kd (i + 6) p) := by
  obtain ⟨r, e, hr⟩ := z_items h h8 hp ho
  refine ⟨_, by unfold pf_X4_bars; rw [e, jx_b], fun i hi => ?_⟩
  rw [k6, b_sshr 6 (by omega) _ hi]
  by_cases h6 : i < 6
  · rw [if_pos (by omega), hr _ (by omega), decide_eq_true h6, decide_eq_true (by omega), Nat.add_comm 6 i]
  · rw [decide_eq_false h6, Bool.false_and]
    by_cases h26 : 6 + i < 32
    · rw [if_pos h26, hr _ h26, decide_eq_false (show ¬ 6 + i < 12 by omega), Bool.false_and]
    · rw [if_neg h26, hr 31 (by omega), decide_eq_false (show ¬ 31 < 12 by omega), Bool.false_and]
theorem z_meetings {S : Int32} {o kd : Nat → Nat → Nat} {R : Nat → Int64} (h : come S o kd R) (h8 : S8 S) (ho : oOK S o) : ∃ r, pf_X1_meetings R = some r ∧ ∀ i, i < 64 → bl r i = (decide (i < 48) && clsh S o kd (i / 6) (i % 6)) := by
  obtain ⟨r, e, hr⟩ := jx_loop0 (step := pf_X1_meetings_s1 R) (fun n s => s.2 = nI n ∧ ∀ i, i < 64 → bl s.1 i = (decide (i < 6 * n) && clsh S o kd (i / 6) (i % 6))) (fun r => ∀ i, i < 64 → bl r i = (decide (i < 48) && clsh S o kd (i / 6) (i % 6))) 8 (by omega) ((0 : Int64), (0 : Int32)) ⟨rfl, fun i _ => by rw [l_0, decide_eq_false (by omega)]; rfl⟩ (by
    rintro n ⟨y, z⟩ hn ⟨rfl, hb⟩
    dsimp only at hb
    unfold pf_X1_meetings_s1
    dsimp only
    by_cases h8' : 8 ≤ n
    · rw [k8, if_pos (nI_le h8' (by omega))]
      have : n = 8 := by omega
      subst this
      exact Or.inl ⟨_, rfl, hb⟩
    · obtain ⟨m, em, hm⟩ := z_meeting h h8 (show n < 8 by omega) ho
      rw [k8, if_neg (nI_ge (by omega) (by omega)), jx_gk _ (by omega) (by omega), nI_clamp (by omega), em, jx_b, k6, pk_mul, nI_1]
      refine Or.inr ⟨by omega, _, rfl, rfl, fun i hi => ?_⟩
      dsimp only
      rw [l_or, hb i hi, l_shl (n * 6) (by omega) _ hi]
      by_cases h1 : i < 6 * n
      · rw [decide_eq_true h1, decide_eq_false (show ¬ n * 6 ≤ i by omega), decide_eq_true (show i < 6 * (n + 1) by omega)]; simp
      · rw [decide_eq_false h1, decide_eq_true (show n * 6 ≤ i by omega), l_of _ (by omega)]
        by_cases h2 : i < 6 * (n + 1)
        · rw [decide_eq_true h2, if_pos (by omega), hm _ (by omega), decide_eq_true (show i - n * 6 < 6 by omega), show i / 6 = n by omega, show i % 6 = i - n * 6 by omega]; simp
        · rw [decide_eq_false h2]
          by_cases h3 : i - n * 6 < 32
          · rw [if_pos h3, hm _ h3, decide_eq_false (show ¬ i - n * 6 < 6 by omega)]; simp
          · rw [if_neg h3, hm 31 (by omega)]; simp)
  exact ⟨r, by unfold pf_X1_meetings; rw [e, jx_b], hr⟩
