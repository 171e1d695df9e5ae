/-! cause and cure: alike -/
/-- how many parts a set has -/
def pc (t : Nat) : Nat := cnt (fun j => t.testBit j) 8
/-- one set lies in another -/
def inS (S : Int32) (t : Nat) : Bool := decide (nI t &&& (S ^^^ -1) = 0)
theorem tb_big {t j : Nat} (ht : t < 256) (hj : 8 ≤ j) : t.testBit j = false := Nat.testBit_lt_two_pow (Nat.lt_of_lt_of_le ht (show 2 ^ 8 ≤ 2 ^ j from Nat.pow_le_pow_right (by omega) hj))
theorem inS_iff {S : Int32} {t : Nat} (ht : t < 256) : inS S t = true ↔ ∀ j, j < 8 → t.testBit j = true → bt S j = true := by
  unfold inS
  rw [decide_eq_true_eq]
  constructor
  · intro h j hj hb
    have : bt (nI t &&& (S ^^^ -1)) j = false := by rw [h, b_0]
    rw [b_and, b_xor, b_m1 j (by omega), b_nI t (by omega), hb] at this
    cases hs : bt S j
    · rw [hs] at this; cases this
    · rfl
  · intro h
    refine b_zero (fun j hj => ?_)
    rw [b_and, b_xor, b_m1 j hj, b_nI t hj]
    cases hb : t.testBit j with
    | false => rfl
    | true =>
      have hj8 : j < 8 := by
        rcases Nat.lt_or_ge j 8 with hh | hh
        · exact hh
        · rw [tb_big ht hh] at hb; cases hb
      rw [h j hj8 hb]; rfl
theorem S8_t {t : Nat} (ht : t < 256) : S8 (nI t) := fun i hi => by
  rcases Nat.lt_or_ge i 32 with h | h
  · rw [b_nI t h]; exact tb_big ht hi
  · exact b_big h
theorem inS_bt {S : Int32} {t : Nat} (ht : t < 256) (h : inS S t = true) : ∀ p, bt (nI t) p = true → bt S p = true := fun p hp => by
  have h8 := S8_lt (S8_t ht) hp
  rw [b_nI t (by omega)] at hp
  exact (inS_iff ht).mp h p h8 hp
theorem pc_eq {s t : Nat} (hs : s < 256) (ht : t < 256) (h : ∀ j, j < 8 → t.testBit j = true → s.testBit j = true) (hp : pc s ≤ pc t) : t = s := by
  apply Nat.eq_of_testBit_eq
  intro j
  rcases Nat.lt_or_ge j 8 with hj | hj
  · refine b_iff ⟨h j hj, fun hb => ?_⟩
    cases hx : t.testBit j with
    | true => rfl
    | false =>
      have := cnt_lt (P := fun j => t.testBit j) (Q := fun j => s.testBit j) h hj hb hx
      unfold pc at hp; omega
  · rw [tb_big ht hj, tb_big hs hj]
/-- the first of the smallest -/
def best (C : Nat → Bool) (r : Nat) : Prop := r < 256 ∧ C r = true ∧ ∀ t, t < 256 → C t = true → pc r < pc t ∨ (pc r = pc t ∧ r ≤ t)
theorem best_uniq {C : Nat → Bool} {r r' : Nat} (h : best C r) (h' : best C r') : r = r' := by
  have a := h.2.2 r' h'.1 h'.2.1
  have b := h'.2.2 r h.1 h.2.1
  omega
theorem few {C : Nat → Bool} {s0 : Nat} (hs0 : s0 < 256) (hC : C s0 = true) (hsub : ∀ t, t < 256 → C t = true → ∀ j, j < 8 → t.testBit j = true → s0.testBit j = true) {step : Int32 × Int32 → Option ((Int32 × Int32) ⊕ Int32)} (hs : ∀ n b, n < 256 → b < 256 → step (nI b, nI n) = some (.inl (nI (if (C n && decide (pc n < pc b)) = true then n else b), nI (n + 1)))) (he : ∀ b, b < 256 → step (nI b, nI 256) = some (.inr (nI b))) : ∃ r, jx_iter step jx_F (nI s0, (0 : Int32)) = some (nI r) ∧ best C r := by
  obtain ⟨x, e, r, rfl, hr⟩ := jx_loop0 (step := step) (fun n s => ∃ b, s = (nI b, nI n) ∧ b < 256 ∧ C b = true ∧ ((b = s0 ∧ ∀ t, t < n → C t = true → pc s0 ≤ pc t) ∨ (b < n ∧ ∀ t, t < n → C t = true → pc b < pc t ∨ (pc b = pc t ∧ b ≤ t)))) (fun x => ∃ r, x = nI r ∧ best C r) 256 (by omega) (nI s0, (0 : Int32)) ⟨s0, rfl, hs0, hC, Or.inl ⟨rfl, fun t ht => by omega⟩⟩ (by
    rintro n s hn ⟨b, rfl, hb, hCb, hinv⟩
    by_cases hn2 : n = 256
    · subst hn2
      refine Or.inl ⟨_, he b hb, b, rfl, hb, hCb, fun t ht hCt => ?_⟩
      rcases hinv with ⟨rfl, h1⟩ | ⟨_, h1⟩
      · have := pc_eq hb ht (hsub t ht hCt) (h1 t ht hCt)
        rw [this]; omega
      · exact h1 t ht hCt
    · refine Or.inr ⟨by omega, _, hs n b (by omega) hb, _, rfl, ?_⟩
      cases hCn : C n with
      | false =>
        rw [Bool.false_and, if_neg ff]
        refine ⟨hb, hCb, ?_⟩
        rcases hinv with ⟨h0, h1⟩ | ⟨h0, h1⟩
        · refine Or.inl ⟨h0, fun t ht hCt => ?_⟩
          by_cases htn : t = n
          · rw [htn, hCn] at hCt; cases hCt
          · exact h1 t (by omega) hCt
        · refine Or.inr ⟨by omega, fun t ht hCt => ?_⟩
          by_cases htn : t = n
          · rw [htn, hCn] at hCt; cases hCt
          · exact h1 t (by omega) hCt
      | true =>
        rw [Bool.true_and]
        by_cases hlt : pc n < pc b
        · rw [decide_eq_true hlt, if_pos rfl]
          refine ⟨by omega, hCn, Or.inr ⟨by omega, fun t ht hCt => ?_⟩⟩
          by_cases htn : t = n
          · rw [htn]; omega
          · rcases hinv with ⟨h0, h1⟩ | ⟨h0, h1⟩
            · have := h1 t (by omega) hCt; rw [h0] at hlt; omega
            · have := h1 t (by omega) hCt; omega
        · rw [decide_eq_false hlt, if_neg ff]
          refine ⟨hb, hCb, ?_⟩
          rcases hinv with ⟨h0, h1⟩ | ⟨h0, h1⟩
          · refine Or.inl ⟨h0, fun t ht hCt => ?_⟩
            by_cases htn : t = n
            · rw [htn]; rw [h0] at hlt; omega
            · exact h1 t (by omega) hCt
          · refine Or.inr ⟨by omega, fun t ht hCt => ?_⟩
            by_cases htn : t = n
            · rw [htn]; omega
            · exact h1 t (by omega) hCt)
  exact ⟨r, e, hr⟩
/-- a search among sets of one size -/
theorem srch {C : Nat → Bool} {m n0 : Nat} (hn0 : n0 ≤ 256) {step : Int32 → Option (Int32 ⊕ (Unit ⊕ Int32))} (hs : ∀ n, n0 ≤ n → n < 256 → step (nI n) = if (C n && decide (pc n = m)) = true then some (.inr (.inr (nI n))) else some (.inl (nI (n + 1)))) (he : step (nI 256) = some (.inr (.inl ()))) : ∃ r, jx_iter step jx_F (nI n0) = some r ∧ ((r = .inl () ∧ ∀ t, n0 ≤ t → t < 256 → C t = true → pc t ≠ m) ∨ ∃ t, n0 ≤ t ∧ t < 256 ∧ r = .inr (nI t) ∧ C t = true ∧ pc t = m ∧ ∀ t', n0 ≤ t' → t' < t → C t' = true → pc t' ≠ m) := by
  refine jx_loop0 (step := step) (fun i s => s = nI (n0 + i) ∧ ∀ t, n0 ≤ t → t < n0 + i → C t = true → pc t ≠ m) _ (256 - n0) (by omega) (nI n0) ⟨rfl, fun t h1 h2 => by omega⟩ ?_
  rintro i s hi ⟨rfl, hb⟩
  by_cases h256 : n0 + i = 256
  · rw [h256, he]
    exact Or.inl ⟨_, rfl, Or.inl ⟨rfl, fun t h1 h2 => hb t h1 (by omega)⟩⟩
  · rw [hs (n0 + i) (by omega) (by omega)]
    cases hx : C (n0 + i) && decide (pc (n0 + i) = m) with
    | true =>
      rw [if_pos rfl]
      rw [Bool.and_eq_true, decide_eq_true_eq] at hx
      exact Or.inl ⟨_, rfl, Or.inr ⟨n0 + i, by omega, by omega, rfl, hx.1, hx.2, hb⟩⟩
    | false =>
      rw [if_neg ff]
      refine Or.inr ⟨by omega, _, rfl, rfl, fun t h1 h2 hC hp => ?_⟩
      by_cases ht : t = n0 + i
      · rw [ht] at hC hp
        rw [hC, decide_eq_true hp] at hx; cases hx
      · exact hb t h1 (by omega) hC hp
section CC
variable {S : Int32} {o kd : Nat → Nat → Nat} {nr ns nk : Nat → Int32} {ow th cm : Nat → Int64}
theorem hb_mono {S S' : Int32} {o kd : Nat → Nat → Nat} {i p : Nat} (h8 : S8 S) (hs : ∀ p, bt S' p = true → bt S p = true) (h : hb S' o kd i p = true) : hb S o kd i p = true := by
  have key : ∀ k, cX S' o kd i k p = true → cX S o kd i k p = true := by
    intro k hk
    refine cl_sub (X := fun p => cX S o kd i k p = true) (fun p hp => ?_) (fun p q hq hE hX => ?_) hk
    · unfold sX at hp
      rw [Bool.and_eq_true] at hp
      refine cl_src ?_
      unfold sX
      rw [hs p hp.1, hp.2]; rfl
    · have hE := eE_S hE
      refine cl_E (S8_lt h8 (hs p hE.1)) hq ?_ hX
      unfold eE
      rw [hs p hE.1, hs q hE.2.1, decide_eq_true hE.2.2.1, decide_eq_true hE.2.2.2]; rfl
  unfold hb at h ⊢
  rw [Bool.or_eq_true, Bool.or_eq_true] at h ⊢
  rcases h with (h | h) | h
  · exact Or.inl (Or.inl (key 1 h))
  · exact Or.inl (Or.inr (key 2 h))
  · exact Or.inr (key 3 h)
theorem clsh_mono {S S' : Int32} {o kd : Nat → Nat → Nat} {p a : Nat} (h8 : S8 S) (hs : ∀ p, bt S' p = true → bt S p = true) (h : clsh S' o kd p a = true) : clsh S o kd p a = true := by
  unfold clsh at h ⊢
  rw [Bool.and_eq_true] at h ⊢
  exact ⟨hb_mono h8 hs h.1, hb_mono h8 hs h.2⟩
/-- what is kept for every set -/
def KB (S : Int32) (o kd : Nat → Nat → Nat) (bz : Nat → Int64) : Prop := ∀ t, t < 256 → inS S t = true → ∀ f, f < 64 → bl (bz t) f = (decide (f < 48) && pf_P (nI t) o kd f)
theorem z_keepAll (h : MO S o kd nr ns nk) (how : ∀ p, p < 8 → bt S p = true → rOK (ow p) (o p)) (hth : ∀ p q, p < 8 → q < 8 → bt S p = true → bt S q = true → tOK (th (p * 8 + q)) (kd p q)) (ch kf : Int32) (bz rw' : Nat → Int64) (hk : kf = ch → KB S o kd bz) : ∃ r, pf_X1_keepAll ow th S ch bz rw' kf = some r ∧ KB S o kd r.1 ∧ r.2.2 = ch := by
  unfold pf_X1_keepAll
  by_cases hkc : kf = ch
  · rw [if_neg (fun hh => hh hkc)]
    exact ⟨_, rfl, hk hkc, hkc⟩
  · rw [if_pos hkc]
    obtain ⟨r, e, hr⟩ := jx_loop0 (step := pf_X1_keepAll_s1 ow th S) (fun n s => s.1 = nI n ∧ ∀ t, t < n → inS S t = true → ∀ f, f < 64 → bl (s.2.1 t) f = (decide (f < 48) && pf_P (nI t) o kd f)) (fun r => KB S o kd r.1) 256 (by omega) ((0 : Int32), bz, rw') ⟨rfl, fun t ht => by omega⟩ (by
      rintro n ⟨z, B, R⟩ hn ⟨rfl, hb⟩
      dsimp only at hb
      unfold pf_X1_keepAll_s1
      dsimp only
      by_cases h256 : 256 ≤ n
      · rw [k256, if_pos (nI_le h256 (by omega))]
        have : n = 256 := by omega
        subst this
        exact Or.inl ⟨_, rfl, hb⟩
      · rw [k256, if_neg (nI_ge (by omega) (by omega)), nI_1]
        right
        refine ⟨by omega, ?_⟩
        cases hin : inS S n with
        | false =>
          have : ¬ nI n &&& (S ^^^ -1) = 0 := of_decide_eq_false hin
          refine ⟨(nI (n + 1), B, R), ?_, rfl, fun t ht hti => ?_⟩
          · rw [if_pos this, jx_b]
          · dsimp only
            by_cases htn : t = n
            · rw [htn, hin] at hti; cases hti
            · exact hb t (by omega) hti
        | true =>
          have : nI n &&& (S ^^^ -1) = 0 := of_decide_eq_true hin
          have hsub := inS_bt (show n < 256 by omega) hin
          obtain ⟨R2, e2, h2⟩ := z_spread (S := nI n) (o := o) (kd := kd) (ow := ow) (th := th) (fun p hp hpS => how p hp (hsub p hpS)) (fun p q hp hq h1 h2 => hth p q hp hq (hsub p h1) (hsub q h2)) R
          obtain ⟨m, e3, h3⟩ := z_meetings (S := nI n) (o := o) (kd := kd) (R := R2) h2 (S8_t (by omega)) (fun p hp i hi => h.oOK p (hsub p hp) i hi)
          refine ⟨(nI (n + 1), vp_updL B n m, R2), ?_, rfl, fun t ht hti f hf => ?_⟩
          · rw [if_neg (fun hh => hh this), e2, jx_b, e3, jx_b, jx_gk _ (by omega) (by omega), jx_b, nI_clamp (by omega)]
          · dsimp only
            by_cases htn : t = n
            · rw [htn, pk_uLs]; exact h3 f hf
            · rw [pk_uLn htn]; exact hb t (by omega) hti f hf)
    rw [e, jx_b]
    exact ⟨_, rfl, hr, rfl⟩
theorem z_isFewer (h8 : S8 S) {n b : Nat} (hn : n < 256) (hb : b < 256) : pf_X1_isFewer S (nI n) (nI b) = some (bi (inS S n && decide (pc n < pc b))) := by
  have hle := cnt_le (fun j => n.testBit j) 8
  have hle2 := cnt_le (fun j => b.testBit j) 8
  unfold pf_X1_isFewer
  cases hin : inS S n with
  | false => rw [if_pos (of_decide_eq_false hin)]; rfl
  | true =>
    rw [if_neg (fun hh => hh (of_decide_eq_true hin)), bc32 n hn, jx_b, bc32 b hb, jx_b]
    show ((if nI (pc b) ≤ nI (pc n) then some (0 : Int32) else some (1 : Int32)) : Option Int32) = _
    by_cases hlt : pc n < pc b
    · rw [if_neg (nI_ge hlt (by unfold pc at *; omega)), decide_eq_true hlt]; rfl
    · rw [if_pos (nI_le (by omega) (by unfold pc at *; omega)), decide_eq_false hlt]; rfl
/-- sets that make a clash of a part and an act -/
def cC (S : Int32) (o kd : Nat → Nat → Nat) (f t : Nat) : Bool := inS S t && pf_P (nI t) o kd f
theorem cC_s0 {s0 f : Nat} (hs : s0 < 256) (hS : S = nI s0) : cC S o kd f s0 = pf_P S o kd f := by
  unfold cC
  have : inS S s0 = true := (inS_iff hs).mpr (fun j hj hb => by rw [hS, b_nI s0 (by omega)]; exact hb)
  rw [this, Bool.true_and, hS]
theorem cC_none (h8 : S8 S) {f : Nat} (hf : pf_P S o kd f = false) {t : Nat} (ht : t < 256) : cC S o kd f t = false := by
  cases hc : cC S o kd f t with
  | false => rfl
  | true =>
    unfold cC at hc
    rw [Bool.and_eq_true] at hc
    have := clsh_mono h8 (inS_bt ht hc.1) hc.2
    unfold pf_P at hf
    rw [hf] at this; cases this
theorem z_fewestFor (h : MO S o kd nr ns nk) (hc : come S o kd cm) (how : ∀ p, p < 8 → bt S p = true → rOK (ow p) (o p)) (hth : ∀ p q, p < 8 → q < 8 → bt S p = true → bt S q = true → tOK (th (p * 8 + q)) (kd p q)) (ch kf : Int32) (bz rw' : Nat → Int64) (hk : kf = ch → KB S o kd bz) {f : Nat} (hf : f < 48) : ∃ r, pf_X1_fewestFor ow th cm S ch bz rw' kf (nI f) = some r ∧ (r.2.2.2 = ch ∨ r.2.2.2 = kf) ∧ (r.2.2.2 = ch → KB S o kd r.2.1) ∧ ((pf_P S o kd f = false ∧ r.1 = -1) ∨ (pf_P S o kd f = true ∧ ∃ t, r.1 = nI t ∧ best (cC S o kd f) t)) := by
  obtain ⟨s0, hs0, hS0⟩ := S8_nI h.1
  obtain ⟨a, ea, ha⟩ := z_now h hc
  unfold pf_X1_fewestFor
  rw [ea, jx_b, z_isSet a (by omega), jx_b, bin, ha f (by omega), decide_eq_true hf, Bool.true_and]
  cases hp : pf_P S o kd f with
  | false =>
    rw [if_neg ff]
    exact ⟨_, rfl, Or.inr rfl, hk, Or.inl ⟨rfl, rfl⟩⟩
  | true =>
    obtain ⟨q, eq, q1, q2⟩ := z_keepAll h how hth ch kf bz rw' hk
    rw [if_pos rfl, eq, jx_b]
    obtain ⟨r, e, hr⟩ := few (C := cC S o kd f) (step := pf_X1_fewestFor_s1 S (nI f) q) hs0 (by rw [cC_s0 hs0 hS0]; exact hp) (fun t ht hCt j hj hb => by
        unfold cC at hCt
        rw [Bool.and_eq_true] at hCt
        have := (inS_iff ht).mp hCt.1 j hj hb
        rw [hS0, b_nI s0 (by omega)] at this; exact this) (by
      intro n b hn hb
      unfold pf_X1_fewestFor_s1
      dsimp only
      rw [k256, if_neg (nI_ge (by omega) (by omega)), jx_gk _ (by omega) (by omega), nI_clamp (by omega), z_isSet _ (by omega), jx_b, bi0, z_isFewer h.1 hn hb, nI_1]
      unfold cC
      cases hin : inS S n with
      | false =>
        rw [Bool.false_and, Bool.false_and, Bool.false_and, if_neg ff]
        cases bl (q.1 n) f
        · rw [if_neg ff, jx_b]
        · rw [if_pos rfl, jx_b, bi0, if_neg ff, jx_b]
      | true =>
        rw [q1 n hn hin f (by omega), decide_eq_true hf, Bool.true_and, Bool.true_and]
        cases pf_P (nI n) o kd f
        · rw [if_neg ff, jx_b, Bool.false_and, if_neg ff]
        · rw [if_pos rfl, jx_b, bi0, Bool.true_and]
          cases decide (pc n < pc b)
          · rw [if_neg ff, jx_b, if_neg ff]
          · rw [if_pos rfl, jx_b, if_pos rfl]) (by
      intro b hb
      unfold pf_X1_fewestFor_s1
      dsimp only
      rw [k256, if_pos (nI_le (Nat.le_refl _) (by omega))])
    rw [← hS0] at e
    rw [e, jx_b]
    exact ⟨_, rfl, Or.inl q2, fun _ => q1, Or.inr ⟨rfl, r, rfl, hr⟩⟩
theorem z_causeNow (h : MO S o kd nr ns nk) {p a : Nat} (hp : p < 8) (ha : a < 6) : ∃ r, pf_X7_causeNow nr S ns nk (nI p) (nI a) = some r ∧ ((r = -1 ∧ ∀ t, t < 256 → cC S o kd (6 * p + a) t = false) ∨ ∃ t, r = nI t ∧ best (cC S o kd (6 * p + a)) t) := by
  have hP : ∀ t, pf_P (nI t) o kd (6 * p + a) = clsh (nI t) o kd p a := fun t => by
    unfold pf_P
    rw [show (6 * p + a) / 6 = p by omega, show (6 * p + a) % 6 = a by omega]
  have hpos : ∀ t, t < 256 → cC S o kd (6 * p + a) t = true → t.testBit p = true ∧ 1 ≤ pc t ∧ 1 ≤ t := by
    intro t ht hc
    unfold cC at hc
    rw [Bool.and_eq_true, hP] at hc
    have hb := hc.2
    unfold clsh at hb
    rw [Bool.and_eq_true] at hb
    have hb := hb_S hb.1
    rw [b_nI t (by omega)] at hb
    refine ⟨hb, cnt_pos hp hb, ?_⟩
    rcases Nat.eq_zero_or_pos t with hz | hz
    · rw [hz, Nat.zero_testBit] at hb; cases hb
    · exact hz
  have inner : ∀ m, m ≤ 8 → ∃ r, jx_iter (pf_X7_causeNow_s2 nr S ns nk (nI p) (nI a) (nI m)) jx_F (1 : Int32) = some r ∧ ((r = .inl () ∧ ∀ t, 1 ≤ t → t < 256 → cC S o kd (6 * p + a) t = true → pc t ≠ m) ∨ ∃ t, 1 ≤ t ∧ t < 256 ∧ r = .inr (nI t) ∧ cC S o kd (6 * p + a) t = true ∧ pc t = m ∧ ∀ t', 1 ≤ t' → t' < t → cC S o kd (6 * p + a) t' = true → pc t' ≠ m) := by
    intro m hm
    refine srch (C := cC S o kd (6 * p + a)) (m := m) (n0 := 1) (by omega) (fun n h1 hn => ?_) ?_
    · have hle := cnt_le (fun j => n.testBit j) 8
      unfold pf_X7_causeNow_s2
      rw [k256, if_neg (nI_ge (by omega) (by omega)), nI_1]
      cases hin : inS S n with
      | false =>
        rw [if_pos (of_decide_eq_false hin), jx_b, if_pos rfl]
        unfold cC
        rw [hin, Bool.false_and, Bool.false_and, if_neg ff]
      | true =>
        rw [if_neg (fun hh => hh (of_decide_eq_true hin)), z_has (nI n) (by omega), jx_b, bi0, b_nI n (by omega)]
        cases htb : n.testBit p with
        | false =>
          rw [if_neg ff, jx_b, if_pos rfl]
          cases hcn : cC S o kd (6 * p + a) n with
          | false => rw [Bool.false_and, if_neg ff]
          | true => rw [(hpos n hn hcn).1] at htb; cases htb
        | true =>
          rw [if_pos rfl, z_ones, jx_b, cnt_congr (Q := fun j => n.testBit j) (fun j hj => b_nI n (show j < 32 by omega))]
          by_cases hpm : pc n = m
          · have hpm' : cnt (fun j => n.testBit j) 8 = m := hpm
            rw [hpm', if_neg (fun hh => hh rfl), jx_b, if_neg n1n0]
            obtain ⟨r, e, hr⟩ := z_clashing (h.sub (inS_bt hn hin)) ha
            rw [e, jx_b, z_has r (by omega), jx_b, bi0, hr p (by omega), decide_eq_true hpm, Bool.and_true]
            unfold cC
            rw [hin, Bool.true_and, hP]
          · rw [if_pos (by rw [nI_eq (by omega) (by omega)]; exact hpm), jx_b, if_pos rfl, decide_eq_false hpm, Bool.and_false, if_neg ff]
    · unfold pf_X7_causeNow_s2
      rw [k256, if_pos (nI_le (Nat.le_refl _) (by omega))]
  obtain ⟨r, e, hr⟩ := jx_loop0 (step := pf_X7_causeNow_s1 nr S ns nk (nI p) (nI a)) (fun i s => s = nI (i + 1) ∧ ∀ t, t < 256 → cC S o kd (6 * p + a) t = true → i + 1 ≤ pc t) (fun r => (r = .inl () ∧ ∀ t, t < 256 → cC S o kd (6 * p + a) t = false) ∨ ∃ t, r = .inr (nI t) ∧ best (cC S o kd (6 * p + a)) t) 8 (by omega) 1 ⟨rfl, fun t ht hc => (hpos t ht hc).2.1⟩ (by
    rintro i s hi ⟨rfl, hb⟩
    unfold pf_X7_causeNow_s1
    by_cases h8 : i = 8
    · subst h8
      rw [if_pos (by decide)]
      refine Or.inl ⟨_, rfl, Or.inl ⟨rfl, fun t ht => ?_⟩⟩
      cases hc : cC S o kd (6 * p + a) t with
      | false => rfl
      | true =>
        have h1 := hb t ht hc
        have h2 := cnt_le (fun j => t.testBit j) 8
        unfold pc at h1; omega
    · rw [if_neg (show ¬ (8 : Int32) < nI (i + 1) by rw [k8, nI_ltI (by omega) (by omega)]; omega)]
      obtain ⟨x, ex, hx⟩ := inner (i + 1) (by omega)
      rw [ex, jx_b, nI_1]
      rcases hx with ⟨rfl, hx⟩ | ⟨t, t1, t2, rfl, t3, t4, t5⟩
      · refine Or.inr ⟨by omega, _, rfl, rfl, fun t ht hc => ?_⟩
        have h1 := hb t ht hc
        have h2 := hx t (hpos t ht hc).2.2 ht hc
        omega
      · refine Or.inl ⟨_, rfl, Or.inr ⟨t, rfl, t2, t3, fun t' ht' hc' => ?_⟩⟩
        have h1 := hb t' ht' hc'
        by_cases he : pc t' = i + 1
        · right
          refine ⟨by omega, ?_⟩
          rcases Nat.lt_or_ge t' t with hh | hh
          · exact absurd he (t5 t' (hpos t' ht' hc').2.2 hh hc')
          · exact hh
        · left; omega)
  unfold pf_X7_causeNow
  rw [e, jx_b]
  rcases hr with ⟨rfl, hr⟩ | ⟨t, rfl, hr⟩
  · exact ⟨_, rfl, Or.inl ⟨rfl, hr⟩⟩
  · exact ⟨_, rfl, Or.inr ⟨t, rfl, hr⟩⟩
/-- a cause by its place: alike -/
theorem q_fewest (h : MO S o kd nr ns nk) (hc : come S o kd cm) (how : ∀ p, p < 8 → bt S p = true → rOK (ow p) (o p)) (hth : ∀ p q, p < 8 → q < 8 → bt S p = true → bt S q = true → tOK (th (p * 8 + q)) (kd p q)) (ch kf : Int32) (bz rw' : Nat → Int64) (hk : kf = ch → KB S o kd bz) {p a : Nat} (hp : p < 8) (ha : a < 6) : ∃ r r', pf_X1_fewestFor ow th cm S ch bz rw' kf (nI (6 * p + a)) = some r ∧ pf_X7_causeNow nr S ns nk (nI p) (nI a) = some r' ∧ r.1 = r' ∧ (r.2.2.2 = ch ∨ r.2.2.2 = kf) ∧ (r.2.2.2 = ch → KB S o kd r.2.1) := by
  obtain ⟨s0, hs0, hS0⟩ := S8_nI h.1
  obtain ⟨r, e, r1, r2, hr⟩ := z_fewestFor h hc how hth ch kf bz rw' hk (f := 6 * p + a) (by omega)
  obtain ⟨r', e', hr'⟩ := z_causeNow h hp ha
  refine ⟨r, r', e, e', ?_, r1, r2⟩
  rcases hr with ⟨hP, hr⟩ | ⟨hP, t, hr, hbt⟩
  · rcases hr' with ⟨hr', _⟩ | ⟨t, _, hbt⟩
    · rw [hr, hr']
    · have := hbt.2.1; rw [cC_none h.1 hP hbt.1] at this; cases this
  · rcases hr' with ⟨_, hno⟩ | ⟨t', hr', hbt'⟩
    · have := hno t hbt.1; rw [hbt.2.1] at this; cases this
    · rw [hr, hr', best_uniq hbt hbt']
end CC
