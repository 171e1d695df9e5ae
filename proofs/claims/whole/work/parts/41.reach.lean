/-! the reference: withReach, heldBy, heldNow, clashing -/
def MO (S : Int32) (o kd : Nat → Nat → Nat) (nr ns nk : Nat → Int32) : Prop := S8 S ∧ (∀ p, bt S p = true → ∃ t, t < 8 ∧ ns p = nI t ∧ ∀ i, i < 12 → nr (12 * t + i) = nI (o p i) ∧ o p i ≤ 3) ∧ ∀ p q, bt S p = true → bt S q = true → nk (8 * p + q) = nI (kd p q) - 1 ∧ kd p q ≤ 4
theorem MO.sub {S S' : Int32} {o kd : Nat → Nat → Nat} {nr ns nk : Nat → Int32} (h : MO S o kd nr ns nk) (hs : ∀ p, bt S' p = true → bt S p = true) : MO S' o kd nr ns nk :=
  ⟨fun i hi => (by
    cases hb : bt S' i with
    | false => rfl
    | true => exact absurd (hs i hb) (by rw [h.1 i hi]; decide)), fun p hp => h.2.1 p (hs p hp), fun p q hp hq => h.2.2 p q (hs p hp) (hs q hq)⟩
theorem MO.oOK {S : Int32} {o kd : Nat → Nat → Nat} {nr ns nk : Nat → Int32} (h : MO S o kd nr ns nk) : oOK S o := fun p hp i hi => by
  obtain ⟨t, _, _, h3⟩ := h.2.1 p hp
  exact (h3 i hi).2
theorem kd_m1 {d : Nat} (h : d ≤ 4) : (nI d - 1 = -1) ↔ d = 0 := (by decide : ∀ d, d < 5 → ((nI d - 1 = -1) ↔ d = 0)) d (by omega)
theorem kd_le {d k : Nat} (h : d ≤ 4) (hk : k ≤ 4) : (nI k ≤ nI d - 1) ↔ k < d := (by decide : ∀ d, d < 5 → ∀ k, k < 5 → ((nI k ≤ nI d - 1) ↔ k < d)) d (by omega) k (by omega)
theorem pk_rem' {a : Nat} (ha : a < 2 ^ 31) : nI a - nI a / nI 8 * nI 8 = nI (a % 8) := pk_rem ha (by omega) (by omega)
section WR
variable {S : Int32} {o kd : Nat → Nat → Nat} {nr ns nk : Nat → Int32}
theorem z_ownReach (h : MO S o kd nr ns nk) {p i : Nat} (hp : bt S p = true) (hi : i < 12) : pf_X7_ownReach nr ns (nI p) (nI i) = some (nI (o p i)) := by
  obtain ⟨t, ht, h1, h2⟩ := h.2.1 p hp
  have h8 := S8_lt h.1 hp
  unfold pf_X7_ownReach
  rw [jx_gk _ h8 (by omega), nI_clamp (by omega), h1, k12, pk_mul, nI_add, jx_gk _ (by omega) (by omega), nI_clamp (by omega), (h2 i hi).1]
theorem z_wr1 (h : MO S o kd nr ns nk) {i k : Nat} (hi : i < 12) (hk : k ≤ 3) : ∃ r, jx_iter (pf_X7_withReach_s1 nr ns S (nI i) (nI k)) jx_F ((0 : Int32), (0 : Int32)) = some r ∧ ∀ j, j < 32 → bt r j = sX S o i k j := by
  obtain ⟨r, e, hr⟩ := jx_loop0 (step := pf_X7_withReach_s1 nr ns S (nI i) (nI k)) (fun n s => s.2 = nI n ∧ ∀ j, j < 32 → bt s.1 j = (decide (j < n) && sX S o i k j)) (fun r => ∀ j, j < 32 → bt r j = sX S o i k j) 8 (by omega) ((0 : Int32), (0 : Int32)) ⟨rfl, fun j _ => by rw [b_0, decide_eq_false (by omega)]; rfl⟩ (by
    rintro n ⟨y, z⟩ hn ⟨rfl, hb⟩
    dsimp only at hb
    unfold pf_X7_withReach_s1
    dsimp only
    by_cases h8 : 8 ≤ n
    · rw [k8, if_pos (nI_le h8 (by omega))]
      have : n = 8 := by omega
      subst this
      refine Or.inl ⟨_, rfl, fun j hj => ?_⟩
      rw [hb j hj]
      by_cases hj8 : j < 8
      · rw [decide_eq_true hj8]; rfl
      · rw [decide_eq_false hj8]
        unfold sX
        rw [h.1 j (by omega)]; rfl
    · rw [k8, if_neg (nI_ge (by omega) (by omega)), z_has S (by omega), jx_b, bi0]
      right
      refine ⟨by omega, (y ||| (if sX S o i k n then (1 : Int32) <<< (nI n &&& 31) else 0), nI (n + 1)), ?_, rfl, fun j hj => ?_⟩
      · cases hs : bt S n with
        | false =>
          rw [if_neg ff, jx_b, nI_1]
          unfold sX
          rw [hs]; rfl
        | true =>
          rw [if_pos rfl, z_ownReach h hs hi, jx_b]
          have ho := h.oOK n hs i hi
          by_cases he : o n i = k
          · rw [if_neg (by rw [he]; exact fun hn => hn rfl), jx_b, nI_1]
            unfold sX
            rw [hs, decide_eq_true he]; rfl
          · rw [if_pos (by rw [nI_eq (by omega) (by omega)]; exact he), jx_b, nI_1]
            unfold sX
            rw [hs, decide_eq_false he]; rfl
      · dsimp only
        rw [b_or, hb j hj]
        by_cases hjn : j = n
        · subst hjn
          rw [decide_eq_false (Nat.lt_irrefl j), decide_eq_true (Nat.lt_succ_self j)]
          cases hs : sX S o i k j
          · rw [if_neg ff, b_0]; rfl
          · rw [if_pos rfl, b_one j (by omega) hj, decide_eq_true rfl]; rfl
        · have e1 : decide (j < n + 1) = decide (j < n) := by
            by_cases h1 : j < n
            · rw [decide_eq_true h1, decide_eq_true (by omega)]
            · rw [decide_eq_false h1, decide_eq_false (by omega)]
          rw [e1]
          cases hs : sX S o i k n
          · rw [if_neg ff, b_0, Bool.or_false]
          · rw [if_pos rfl, b_one n (by omega) hj, decide_eq_false hjn, Bool.or_false])
  exact ⟨r, e, hr⟩
theorem eE_S {k p q : Nat} (h : eE S kd k p q = true) : bt S p = true ∧ bt S q = true ∧ kd p q ≠ 0 ∧ kd p q ≤ k := by
  unfold eE at h
  rw [Bool.and_eq_true, Bool.and_eq_true, Bool.and_eq_true, decide_eq_true_eq, decide_eq_true_eq] at h
  exact h
theorem rchX_S {i k n p : Nat} (h : rch (eE S kd k) (sX S o i k) n p = true) : bt S p = true :=
  rch_sub (X := fun p => bt S p = true) (fun p hp => by unfold sX at hp; rw [Bool.and_eq_true] at hp; exact hp.1) (fun p q _ hE _ => (eE_S hE).1) n p h
theorem z_wr3 (h : MO S o kd nr ns nk) {k : Nat} (hk : k ≤ 3) (W w0 : Int32) (hW : ∀ q, bt W q = true → bt S q = true) : ∃ r, jx_iter (pf_X7_withReach_s3 nk S (nI k) (W, w0)) jx_F (W, (0 : Int32)) = some r ∧ ∀ j, j < 32 → bt r j = (bt W j || (List.range 8).any (fun q => eE S kd k j q && bt W q)) := by
  obtain ⟨r, e, hr⟩ := jx_loop0 (step := pf_X7_withReach_s3 nk S (nI k) (W, w0)) (fun n s => s.2 = nI n ∧ ∀ j, j < 32 → bt s.1 j = (bt W j || (List.range n).any (fun c => decide (c / 8 = j) && (eE S kd k (c / 8) (c % 8) && bt W (c % 8))))) (fun r => ∀ j, j < 32 → bt r j = (bt W j || (List.range 64).any (fun c => decide (c / 8 = j) && (eE S kd k (c / 8) (c % 8) && bt W (c % 8))))) 64 (by omega) (W, (0 : Int32)) ⟨rfl, fun j _ => by simp⟩ (by
    rintro n ⟨y, z⟩ hn ⟨rfl, hb⟩
    dsimp only at hb
    unfold pf_X7_withReach_s3
    dsimp only
    by_cases h64 : 64 ≤ n
    · rw [k64, if_pos (nI_le h64 (by omega))]
      have : n = 64 := by omega
      subst this
      exact Or.inl ⟨_, rfl, hb⟩
    · rw [k64, if_neg (nI_ge (by omega) (by omega)), k8, pk_rem' (by omega), pk_div (by omega) (by omega) (by omega), z_has S (by omega), jx_b, bi0]
      right
      refine ⟨by omega, (y ||| (if (eE S kd k (n / 8) (n % 8) && bt W (n % 8)) = true then (1 : Int32) <<< (nI (n / 8) &&& 31) else 0), nI (n + 1)), ?_, rfl, fun j hj => ?_⟩
      · have key : ((if bt S (n / 8) = true then (pf_X7_has W (nI (n % 8))).bind fun r15 => (if r15 = 0 then some (0 : Int32) else (jx_gd (jx_in (nI n) 64)).bind fun _ => (if (nk (nI n).toNatClampNeg) = (-1 : Int32) then some (0 : Int32) else (jx_gd (jx_in (nI n) 64)).bind fun _ => (if nI k ≤ (nk (nI n).toNatClampNeg) then some (0 : Int32) else some (1 : Int32)))) else some (0 : Int32)) : Option Int32) = some (bi (eE S kd k (n / 8) (n % 8) && bt W (n % 8))) := by
          unfold eE
          cases h1 : bt S (n / 8) with
          | false => rw [if_neg ff]; rfl
          | true =>
            rw [if_pos rfl, z_has W (by omega), jx_b, bi0]
            cases h2 : bt W (n % 8) with
            | false => rw [if_neg ff, Bool.and_false]; rfl
            | true =>
              have h3 := hW _ h2
              obtain ⟨g1, g2⟩ := h.2.2 _ _ h1 h3
              rw [show 8 * (n / 8) + n % 8 = n by omega] at g1
              rw [if_pos rfl, jx_gk _ (by omega) (by omega), nI_clamp (by omega), g1, jx_gk _ (by omega) (by omega), h3]
              by_cases hz : kd (n / 8) (n % 8) = 0
              · rw [if_pos ((kd_m1 g2).mpr hz), decide_eq_false (fun hh => hh hz)]; rfl
              · rw [if_neg (fun hh => hz ((kd_m1 g2).mp hh)), decide_eq_true hz]
                by_cases hl : kd (n / 8) (n % 8) ≤ k
                · rw [if_neg (fun hh => by have := (kd_le g2 (by omega)).mp hh; omega), decide_eq_true hl]; rfl
                · rw [if_pos ((kd_le g2 (by omega)).mpr (by omega)), decide_eq_false hl]; rfl
        rw [key, jx_b, bi0]
        cases eE S kd k (n / 8) (n % 8) && bt W (n % 8)
        · rw [if_neg ff, jx_b, nI_1, if_neg ff]
        · rw [if_pos rfl, jx_b, nI_1, if_pos rfl]
      · dsimp only
        rw [b_or, hb j hj, any_succ, Bool.or_assoc]
        congr 2
        cases hE : eE S kd k (n / 8) (n % 8) && bt W (n % 8)
        · rw [if_neg ff, b_0, Bool.and_false]
        · rw [if_pos rfl, b_one _ (by omega) hj, Bool.and_true]
          by_cases hh : j = n / 8
          · rw [decide_eq_true hh, decide_eq_true hh.symm]
          · rw [decide_eq_false hh, decide_eq_false (fun h => hh h.symm)])
  refine ⟨r, e, fun j hj => ?_⟩
  rw [hr j hj]
  congr 1
  refine b_iff ?_
  rw [List.any_eq_true, List.any_eq_true]
  constructor
  · rintro ⟨c, hc, hb⟩
    rw [Bool.and_eq_true, decide_eq_true_eq] at hb
    refine ⟨c % 8, List.mem_range.mpr (by omega), ?_⟩
    rw [← hb.1]; exact hb.2
  · rintro ⟨q, hq, hb⟩
    have hq := List.mem_range.mp hq
    have hE := (Bool.and_eq_true _ _ ▸ hb : _ ∧ _).1
    have hj8 := S8_lt h.1 (eE_S hE).1
    refine ⟨8 * j + q, List.mem_range.mpr (by omega), ?_⟩
    rw [show (8 * j + q) / 8 = j by omega, show (8 * j + q) % 8 = q by omega, decide_eq_true rfl, Bool.true_and]
    exact hb
theorem z_withReach (h : MO S o kd nr ns nk) {i k : Nat} (hi : i < 12) (hk : k ≤ 3) : ∃ r, pf_X7_withReach nr ns nk S (nI i) (nI k) = some r ∧ ∀ j, j < 32 → bt r j = cX S o kd i k j := by
  obtain ⟨r1, e1, h1⟩ := z_wr1 h hi hk
  have hS : ∀ n, ∀ j, 8 ≤ j → rch (eE S kd k) (sX S o i k) n j = false := fun n j hj => by
    cases hb : rch (eE S kd k) (sX S o i k) n j with
    | false => rfl
    | true => have := rchX_S hb; rw [h.1 j hj] at this; cases this
  obtain ⟨r, e, hr⟩ := jx_loop0 (step := pf_X7_withReach_s2 nk S (nI k)) (fun n s => (∀ j, j < 32 → bt s.1 j = rch (eE S kd k) (sX S o i k) n j) ∧ (n = 0 → s.2 = 0) ∧ ∀ m, n = m + 1 → ∀ j, j < 32 → bt s.2 j = rch (eE S kd k) (sX S o i k) m j) (fun r => ∀ j, j < 32 → bt r j = cX S o kd i k j) 8 (by omega) (r1, (0 : Int32)) ⟨h1, fun _ => rfl, fun m hm => by omega⟩ (by
    rintro n ⟨y, z⟩ hn ⟨hb, h0, hm⟩
    dsimp only at hb h0 hm
    unfold pf_X7_withReach_s2
    dsimp only
    by_cases he : z = y
    · rw [if_pos he]
      refine Or.inl ⟨_, rfl, fun j hj => ?_⟩
      rw [hb j hj]
      have hfix : ∀ p, p < 8 → rch (eE S kd k) (sX S o i k) 7 p = true → rch (eE S kd k) (sX S o i k) n p = true := by
        rcases Nat.eq_zero_or_pos n with hz | hz
        · subst hz
          have hzero : ∀ p, p < 8 → rch (eE S kd k) (sX S o i k) 0 p = false := fun p hp => by rw [← hb p (by omega), ← he, h0 rfl, b_0]
          intro p hp hr
          refine rch_fix (n := 0) (fun p hp hr => ?_) 7 p hp hr
          rcases rch_S.mp hr with hh | ⟨q, hq, _, hh⟩
          · exact hh
          · rw [hzero q hq] at hh; cases hh
        · obtain ⟨m, rfl⟩ : ∃ m, n = m + 1 := ⟨n - 1, by omega⟩
          intro p hp hr
          refine rch_up (Nat.le_succ m) (rch_fix (n := m) (fun p hp hr => ?_) 7 p hp (rch_up (by omega) hr))
          rw [← hm m rfl p (by omega), he, hb p (by omega)]; exact hr
      rcases Nat.lt_or_ge j 8 with h8 | h8
      · refine b_iff ⟨fun hr => rch_7 h8 hr, fun hr => hfix j h8 hr⟩
      · rw [hS n j h8]; exact (hS 7 j h8).symm
    · obtain ⟨r, e, hr⟩ := z_wr3 h hk y z (fun q hq => by
        rcases Nat.lt_or_ge q 32 with hq2 | hq2
        · rw [hb q hq2] at hq; exact rchX_S hq
        · rw [b_big hq2] at hq; cases hq)
      rw [if_neg he, e, jx_b]
      have hnext : ∀ j, j < 32 → bt r j = rch (eE S kd k) (sX S o i k) (n + 1) j := fun j hj => by
        rw [hr j hj, hb j hj]
        show _ = (rch (eE S kd k) (sX S o i k) n j || (List.range 8).any (fun q => eE S kd k j q && rch (eE S kd k) (sX S o i k) n q))
        congr 1
        refine b_iff ?_
        rw [List.any_eq_true, List.any_eq_true]
        constructor
        · rintro ⟨q, hq, hh⟩
          exact ⟨q, hq, by rw [← hb q (by have := List.mem_range.mp hq; omega)]; exact hh⟩
        · rintro ⟨q, hq, hh⟩
          exact ⟨q, hq, by rw [hb q (by have := List.mem_range.mp hq; omega)]; exact hh⟩
      refine Or.inr ⟨?_, _, rfl, hnext, fun hz => by omega, fun m hm2 j hj => ?_⟩
      · rcases Nat.lt_or_ge n 8 with h8 | h8
        · exact h8
        · have hn8 : n = 8 := by omega
          subst hn8
          refine absurd (b_ext (fun j hj => ?_)) he
          rw [hm 7 rfl j hj, hb j hj]
          rcases Nat.lt_or_ge j 8 with h8 | h8
          · exact b_iff ⟨fun hr => rch_up (by omega) hr, fun hr => rch_7 h8 hr⟩
          · rw [hS 7 j h8, hS 8 j h8]
      · have : m = n := by omega
        subst this
        exact hb j hj)
  exact ⟨r, by unfold pf_X7_withReach; rw [e1, jx_b, e, jx_b], hr⟩
theorem z_heldBy (h : MO S o kd nr ns nk) {i : Nat} (hi : i < 12) : ∃ r, pf_X7_heldBy nr ns nk S (nI i) = some r ∧ ∀ j, j < 32 → bt r j = hb S o kd i j := by
  obtain ⟨r1, e1, h1⟩ := z_withReach h hi (k := 1) (by omega)
  obtain ⟨r2, e2, h2⟩ := z_withReach h hi (k := 2) (by omega)
  obtain ⟨r3, e3, h3⟩ := z_withReach h hi (k := 3) (by omega)
  refine ⟨_, by unfold pf_X7_heldBy; rw [k1, k2, k3, e1, jx_b, e2, jx_b, e3, jx_b], fun j hj => ?_⟩
  rw [b_or, b_or, h1 j hj, h2 j hj, h3 j hj]; rfl
theorem z_clashing (h : MO S o kd nr ns nk) {a : Nat} (ha : a < 6) : ∃ r, pf_X7_clashing nr ns nk S (nI a) = some r ∧ ∀ j, j < 32 → bt r j = clsh S o kd j a := by
  obtain ⟨r1, e1, h1⟩ := z_heldBy h (i := a) (by omega)
  obtain ⟨r2, e2, h2⟩ := z_heldBy h (i := a + 6) (by omega)
  refine ⟨_, by unfold pf_X7_clashing; rw [e1, jx_b, k6, nI_add, e2, jx_b], fun j hj => ?_⟩
  rw [b_and, h1 j hj, h2 j hj]; rfl
theorem z_heldNow (h : MO S o kd nr ns nk) {i p : Nat} (hi : i < 12) (hp : p < 8) : pf_X7_heldNow nr S ns nk (nI p) (nI i) = some (nI (hd S o kd i p)) := by
  have key : ∀ k, k ≤ 2 → pf_X7_heldNow_s1 nr S ns nk (nI p) (nI i) (nI (k + 1)) = (if cX S o kd i (k + 1) p then some (.inr (nI (k + 1))) else some (.inl (nI k))) := by
    intro k hk
    obtain ⟨r, e, hr⟩ := z_withReach h hi (k := k + 1) (by omega)
    unfold pf_X7_heldNow_s1
    rw [if_neg (nI_nle (by omega) (by omega)), e, jx_b, z_has r (by omega), jx_b, bin, hr p (by omega), pk_m1]
  have k0' : pf_X7_heldNow_s1 nr S ns nk (nI p) (nI i) (nI 0) = some (.inr (nI 0)) := by
    unfold pf_X7_heldNow_s1
    rw [if_pos (by decide)]
  obtain ⟨r, e, hr⟩ := jx_loop0 (step := pf_X7_heldNow_s1 nr S ns nk (nI p) (nI i)) (fun j s => s = nI (3 - j) ∧ ∀ k, 3 - j ≤ k → k ≤ 2 → cX S o kd i (k + 1) p = false) (fun r => r = nI (hd S o kd i p)) 3 (by omega) 3 ⟨rfl, fun k h1 h2 => by omega⟩ (by
    rintro j s hj ⟨rfl, hb⟩
    rcases (show j = 0 ∨ j = 1 ∨ j = 2 ∨ j = 3 by omega) with rfl | rfl | rfl | rfl
    · rw [show 3 - 0 = 2 + 1 by rfl, key 2 (by omega)]
      cases hx : cX S o kd i (2 + 1) p with
      | true => exact Or.inl ⟨_, rfl, by rw [hd, hx]; rfl⟩
      | false => exact Or.inr ⟨by omega, _, rfl, rfl, fun k h1 h2 => by rw [show k = 2 by omega]; exact hx⟩
    · have e2 := hb 2 (by omega) (by omega)
      rw [show 3 - 1 = 1 + 1 by rfl, key 1 (by omega)]
      cases hx : cX S o kd i (1 + 1) p with
      | true => exact Or.inl ⟨_, rfl, by rw [hd, hx, e2]; rfl⟩
      | false => exact Or.inr ⟨by omega, _, rfl, rfl, fun k h1 h2 => by rcases (show k = 1 ∨ k = 2 by omega) with rfl | rfl; exact hx; exact e2⟩
    · have e2 := hb 2 (by omega) (by omega)
      have e1 := hb 1 (by omega) (by omega)
      rw [show 3 - 2 = 0 + 1 by rfl, key 0 (by omega)]
      cases hx : cX S o kd i (0 + 1) p with
      | true => exact Or.inl ⟨_, rfl, by rw [hd, hx, e1, e2]; rfl⟩
      | false => exact Or.inr ⟨by omega, _, rfl, rfl, fun k h1 h2 => by rcases (show k = 0 ∨ k = 1 ∨ k = 2 by omega) with rfl | rfl | rfl; exact hx; exact e1; exact e2⟩
    · have e2 := hb 2 (by omega) (by omega)
      have e1 := hb 1 (by omega) (by omega)
      have e0 := hb 0 (by omega) (by omega)
      rw [show 3 - 3 = 0 by rfl, k0']
      exact Or.inl ⟨_, rfl, by rw [hd, e0, e1, e2]; rfl⟩)
  unfold pf_X7_heldNow
  rw [e, jx_b, hr]
end WR
