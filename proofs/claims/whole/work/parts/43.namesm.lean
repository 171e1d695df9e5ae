/-! names, in the reference; joins counted on both sides -/
section NMM
variable {S : Int32} {o kd : Nat → Nat → Nat} {nr ns nk : Nat → Int32}
theorem z_isLet (h : MO S o kd nr ns nk) {p q k : Nat} (hp : p < 8) (hq : q < 8) (hk : k ≤ 4) : pf_X7_isLet S nk (nI p) (nI q) (nI k) = some (bi (eE S kd k p q)) := by
  unfold pf_X7_isLet eE
  rw [k8, pk_mul, nI_add, jx_gk _ (by omega) (by omega), z_has S (by omega), jx_b, bi0]
  cases h1 : bt S p with
  | false => rw [if_neg ff]; rfl
  | true =>
    rw [if_pos rfl, z_has S (by omega), jx_b, bi0]
    cases h2 : bt S q with
    | false => rw [if_neg ff]; rfl
    | true =>
      obtain ⟨g1, g2⟩ := h.2.2 p q h1 h2
      rw [if_pos rfl, nI_clamp (by omega), g1]
      by_cases hz : kd p q = 0
      · rw [if_pos ((kd_m1 g2).mpr hz), decide_eq_false (fun hh => hh hz)]; rfl
      · rw [if_neg (fun hh => hz ((kd_m1 g2).mp hh)), decide_eq_true hz]
        by_cases hl : kd p q ≤ k
        · rw [if_neg (fun hh => by have := (kd_le g2 hk).mp hh; omega), decide_eq_true hl]; rfl
        · rw [if_pos ((kd_le g2 hk).mpr (by omega)), decide_eq_false hl]; rfl
theorem z_nm2 (h : MO S o kd nr ns nk) (W w0 : Int32) : ∃ r, jx_iter (pf_X7_namesOf_s2 S nk (W, w0)) jx_F (W, (0 : Int32)) = some r ∧ ∀ j, j < 32 → bt r j = (bt W j || (List.range 8).any (fun p => eN S kd j p && bt W p)) := by
  obtain ⟨r, e, hr⟩ := jx_loop0 (step := pf_X7_namesOf_s2 S nk (W, w0)) (fun n s => s.2 = nI n ∧ ∀ j, j < 32 → bt s.1 j = (bt W j || (List.range n).any (fun c => decide (j = c % 8) && (eE S kd 2 (c / 8) (c % 8) && bt W (c / 8))))) (fun r => ∀ j, j < 32 → bt r j = (bt W j || (List.range 64).any (fun c => decide (j = c % 8) && (eE S kd 2 (c / 8) (c % 8) && bt W (c / 8))))) 64 (by omega) (W, (0 : Int32)) ⟨rfl, fun j _ => by simp⟩ (by
    rintro n ⟨y, z⟩ hn ⟨rfl, hb⟩
    dsimp only at hb
    unfold pf_X7_namesOf_s2
    dsimp only
    by_cases h64 : 64 ≤ n
    · rw [k64, if_pos (nI_le h64 (by omega))]
      have : n = 64 := by omega
      subst this
      exact Or.inl ⟨_, rfl, hb⟩
    · rw [k64, if_neg (nI_ge (by omega) (by omega)), k8, pk_rem' (by omega), pk_div (by omega) (by omega) (by omega), k2, z_isLet h (by omega) (by omega) (by omega), jx_b, bi0]
      right
      refine ⟨by omega, (y ||| (if (eE S kd 2 (n / 8) (n % 8) && bt W (n / 8)) = true then (1 : Int32) <<< (nI (n % 8) &&& 31) else 0), nI (n + 1)), ?_, rfl, fun j hj => ?_⟩
      · cases eE S kd 2 (n / 8) (n % 8)
        · rw [if_neg ff, jx_b, nI_1, Bool.false_and, if_neg ff]
        · rw [if_pos rfl, z_has W (by omega), jx_b, bi0, Bool.true_and]
          cases bt W (n / 8)
          · rw [if_neg ff, jx_b, nI_1, if_neg ff]
          · rw [if_pos rfl, jx_b, nI_1, if_pos rfl]
      · dsimp only
        rw [bit_step (n := n) hj (by omega), hb j hj, any_succ, Bool.or_assoc])
  refine ⟨r, e, fun j hj => ?_⟩
  rw [hr j hj]
  congr 1
  refine b_iff ?_
  rw [List.any_eq_true, List.any_eq_true]
  constructor
  · rintro ⟨c, hc, hb⟩
    have hc := List.mem_range.mp hc
    rw [Bool.and_eq_true, decide_eq_true_eq] at hb
    refine ⟨c / 8, List.mem_range.mpr (by omega), ?_⟩
    unfold eN
    rw [hb.1]; exact hb.2
  · rintro ⟨p, hp, hb⟩
    have hp := List.mem_range.mp hp
    have hE := (Bool.and_eq_true _ _ ▸ hb : _ ∧ _).1
    have hj8 := (eN_lt h.1 hE).1
    refine ⟨8 * p + j, List.mem_range.mpr (by omega), ?_⟩
    rw [show (8 * p + j) / 8 = p by omega, show (8 * p + j) % 8 = j by omega, decide_eq_true rfl, Bool.true_and]
    exact hb
theorem z_namesM (h : MO S o kd nr ns nk) {a : Nat} (ha : a < 8) : ∃ r, pf_X7_namesOf S nk (nI a) = some r ∧ ∀ j, j < 32 → bt r j = (cl (eN S kd) (sN a) j && !decide (j = a)) := by
  have hS : ∀ n, ∀ j, 8 ≤ j → rch (eN S kd) (sN a) n j = false := fun n j hj => by
    cases hb : rch (eN S kd) (sN a) n j with
    | false => rfl
    | true =>
      have : j < 8 := rch_sub (X := fun j => j < 8) (fun p hp => by unfold sN at hp; rw [decide_eq_true_eq] at hp; omega) (fun p q _ hE _ => (eN_lt h.1 hE).1) n j hb
      omega
  obtain ⟨r, e, hr⟩ := jx_loop0 (step := pf_X7_namesOf_s1 S nk) (fun n s => (∀ j, j < 32 → bt s.1 j = rch (eN S kd) (sN a) n j) ∧ (n = 0 → s.2 = 0) ∧ ∀ m, n = m + 1 → ∀ j, j < 32 → bt s.2 j = rch (eN S kd) (sN a) m j) (fun r => ∀ j, j < 32 → bt r j = cl (eN S kd) (sN a) j) 8 (by omega) ((1 : Int32) <<< (nI a &&& 31), (0 : Int32)) ⟨fun j hj => b_one a (by omega) hj, fun _ => rfl, fun m hm => by omega⟩ (by
    rintro n ⟨y, z⟩ hn ⟨hb, h0, hm⟩
    dsimp only at hb h0 hm
    unfold pf_X7_namesOf_s1
    dsimp only
    by_cases he : z = y
    · rw [if_pos he]
      refine Or.inl ⟨_, rfl, fun j hj => ?_⟩
      rw [hb j hj]
      have hfix : ∀ p, p < 8 → rch (eN S kd) (sN a) 7 p = true → rch (eN S kd) (sN a) n p = true := by
        rcases Nat.eq_zero_or_pos n with hz | hz
        · subst hz
          have hzero : ∀ p, p < 8 → rch (eN S kd) (sN a) 0 p = false := fun p hp => by rw [← hb p (by omega), ← he, h0 rfl, b_0]
          intro p hp hr
          refine rch_fix (n := 0) (fun p hp hr => ?_) 7 p hp hr
          rcases rch_S.mp hr with hh | ⟨q, hq, _, hh⟩
          · exact hh
          · rw [hzero q hq] at hh; cases hh
        · obtain ⟨m, rfl⟩ : ∃ m, n = m + 1 := ⟨n - 1, by omega⟩
          intro p hp hr
          refine rch_up (Nat.le_succ m) (rch_fix (n := m) (fun p hp hr => ?_) 7 p hp (rch_up (by omega) hr))
          rw [← hm m rfl p (by omega), he, hb p (by omega)]; exact hr
      rcases Nat.lt_or_ge j 8 with h8 | h8
      · refine b_iff ⟨fun hr => rch_7 h8 hr, fun hr => hfix j h8 hr⟩
      · rw [hS n j h8]; exact (hS 7 j h8).symm
    · obtain ⟨r, e, hr⟩ := z_nm2 h y z
      rw [if_neg he, e, jx_b]
      have hnext : ∀ j, j < 32 → bt r j = rch (eN S kd) (sN a) (n + 1) j := fun j hj => by
        rw [hr j hj, hb j hj]
        show _ = (rch (eN S kd) (sN a) n j || (List.range 8).any (fun q => eN S kd j q && rch (eN S kd) (sN a) n q))
        congr 1
        refine b_iff ?_
        rw [List.any_eq_true, List.any_eq_true]
        constructor
        · rintro ⟨q, hq, hh⟩
          exact ⟨q, hq, by rw [← hb q (by have := List.mem_range.mp hq; omega)]; exact hh⟩
        · rintro ⟨q, hq, hh⟩
          exact ⟨q, hq, by rw [hb q (by have := List.mem_range.mp hq; omega)]; exact hh⟩
      refine Or.inr ⟨?_, _, rfl, hnext, fun hz => by omega, fun m hm2 j hj => ?_⟩
      · rcases Nat.lt_or_ge n 8 with h8 | h8
        · exact h8
        · have hn8 : n = 8 := by omega
          subst hn8
          refine absurd (b_ext (fun j hj => ?_)) he
          rw [hm 7 rfl j hj, hb j hj]
          rcases Nat.lt_or_ge j 8 with h8 | h8
          · exact b_iff ⟨fun hr => rch_up (by omega) hr, fun hr => rch_7 h8 hr⟩
          · rw [hS 7 j h8, hS 8 j h8]
      · have : m = n := by omega
        subst this
        exact hb j hj)
  refine ⟨_, by unfold pf_X7_namesOf; rw [e, jx_b], fun j hj => ?_⟩
  rw [b_and, b_xor, b_one a (by omega) hj, b_m1 j hj, hr j hj]
  cases decide (j = a) <;> rfl
end NMM
/-- sums over places, and a loop that makes one -/
def fold {α : Type} (f : Nat → α → α) : Nat → α → α
  | 0, a => a
  | n + 1, a => f n (fold f n a)
theorem fold_congr {α : Type} {f g : Nat → α → α} {n : Nat} (h : ∀ i, i < n → ∀ a, f i a = g i a) (a : α) : fold f n a = fold g n a := by
  induction n with
  | zero => rfl
  | succ n ih => show f n (fold f n a) = g n (fold g n a); rw [ih (fun i hi => h i (by omega)), h n (by omega)]
/-- a loop whose state is (what is gathered, the number) -/
theorem jx_forA {α : Type} {step : α × Int32 → Option ((α × Int32) ⊕ α)} {N : Nat} (f : Nat → α → α) (hN : N < 4096) (hs : ∀ i a, i < N → step (a, nI i) = some (.inl (f i a, nI (i + 1)))) (he : ∀ a, step (a, nI N) = some (.inr a)) (a : α) : jx_iter step jx_F (a, (0 : Int32)) = some (fold f N a) := by
  obtain ⟨r, e, hr⟩ := jx_loop0 (step := step) (fun n s => s = (fold f n a, nI n)) (fun r => r = fold f N a) N hN (a, (0 : Int32)) rfl (by
    rintro n s hn rfl
    by_cases h : n = N
    · subst h
      exact Or.inl ⟨_, he _, rfl⟩
    · exact Or.inr ⟨by omega, _, hs n _ (by omega), rfl⟩)
  rw [e, hr]
/-- a loop whose state is (the number, what is gathered) -/
theorem jx_forB {α : Type} {step : Int32 × α → Option ((Int32 × α) ⊕ α)} {N : Nat} (f : Nat → α → α) (hN : N < 4096) (hs : ∀ i a, i < N → step (nI i, a) = some (.inl (nI (i + 1), f i a))) (he : ∀ a, step (nI N, a) = some (.inr a)) (a : α) : jx_iter step jx_F ((0 : Int32), a) = some (fold f N a) := by
  obtain ⟨r, e, hr⟩ := jx_loop0 (step := step) (fun n s => s = (nI n, fold f n a)) (fun r => r = fold f N a) N hN ((0 : Int32), a) rfl (by
    rintro n s hn rfl
    by_cases h : n = N
    · subst h
      exact Or.inl ⟨_, he _, rfl⟩
    · exact Or.inr ⟨by omega, _, hs n _ (by omega), rfl⟩)
  rw [e, hr]
/-- how many joins go out of a part, and into it -/
def jF (kd : Nat → Nat → Nat) (p : Nat) : Int32 := fold (fun q a => a + bi (decide (kd p q ≠ 0))) 8 0
def jT (kd : Nat → Nat → Nat) (p : Nat) : Int32 := fold (fun q a => a + bi (decide (kd q p ≠ 0))) 8 0
section JN
variable {S : Int32} {o kd : Nat → Nat → Nat} {nr ns nk ki : Nat → Int32}
theorem z_joinsFrom (h : KX ki kd) {p : Nat} (hp : p < 8) : pf_X3_joinsFrom ki (nI p) = some (jF kd p) := by
  unfold pf_X3_joinsFrom
  rw [jx_forA (step := pf_X3_joinsFrom_s1 ki (nI p)) (N := 8) (fun q a => a + bi (decide (kd p q ≠ 0))) (by omega) (fun q a hq => ?_) (fun a => ?_), jx_b]
  · rfl
  · unfold pf_X3_joinsFrom_s1
    dsimp only
    rw [k8, if_neg (nI_ge (by omega) (by omega)), z_kindOf h hp hq, jx_b, nI_1]
    have g2 := (h p q hp hq).2
    by_cases hz : kd p q = 0
    · rw [if_neg (fun hh => hh ((kd_m1 g2).mpr hz)), jx_b, decide_eq_false (fun hh => hh hz)]; rfl
    · rw [if_pos (fun hh => hz ((kd_m1 g2).mp hh)), jx_b, decide_eq_true hz]; rfl
  · unfold pf_X3_joinsFrom_s1
    dsimp only
    rw [k8, if_pos (nI_le (Nat.le_refl _) (by omega))]
theorem z_joinsTo (h : KX ki kd) {p : Nat} (hp : p < 8) : pf_X3_joinsTo ki (nI p) = some (jT kd p) := by
  unfold pf_X3_joinsTo
  rw [jx_forA (step := pf_X3_joinsTo_s1 ki (nI p)) (N := 8) (fun q a => a + bi (decide (kd q p ≠ 0))) (by omega) (fun q a hq => ?_) (fun a => ?_), jx_b]
  · rfl
  · unfold pf_X3_joinsTo_s1
    dsimp only
    rw [k8, if_neg (nI_ge (by omega) (by omega)), z_kindOf h hq hp, jx_b, nI_1]
    have g2 := (h q p hq hp).2
    by_cases hz : kd q p = 0
    · rw [if_neg (fun hh => hh ((kd_m1 g2).mpr hz)), jx_b, decide_eq_false (fun hh => hh hz)]; rfl
    · rw [if_pos (fun hh => hz ((kd_m1 g2).mp hh)), jx_b, decide_eq_true hz]; rfl
  · unfold pf_X3_joinsTo_s1
    dsimp only
    rw [k8, if_pos (nI_le (Nat.le_refl _) (by omega))]
theorem z_joins (h : KX ki kd) : pf_X3_joins ki = some (fold (fun p a => a + jF kd p) 8 0) := by
  unfold pf_X3_joins
  rw [jx_forA (step := pf_X3_joins_s1 ki) (N := 8) (fun p a => a + jF kd p) (by omega) (fun q a hq => ?_) (fun a => ?_), jx_b]
  · unfold pf_X3_joins_s1
    dsimp only
    rw [k8, if_neg (nI_ge (by omega) (by omega)), z_joinsFrom h hq, jx_b, nI_1]
  · unfold pf_X3_joins_s1
    dsimp only
    rw [k8, if_pos (nI_le (Nat.le_refl _) (by omega))]
theorem z_usesOf (h : MO S o kd nr ns nk) (hS : KS S kd) {p : Nat} (hp : p < 8) (hpS : bt S p = true) : pf_X7_usesOf S nk (nI p) = some (jF kd p) := by
  unfold pf_X7_usesOf
  rw [jx_forA (step := pf_X7_usesOf_s1 S nk (nI p)) (N := 8) (fun q a => a + bi (decide (kd p q ≠ 0))) (by omega) (fun q a hq => ?_) (fun a => ?_), jx_b]
  · rfl
  · unfold pf_X7_usesOf_s1
    dsimp only
    rw [k8, if_neg (nI_ge (by omega) (by omega)), z_has S (by omega), jx_b, bi0, nI_1]
    cases hb : bt S q with
    | false =>
      have hz : kd p q = 0 := Classical.byContradiction (fun hh => by have := (hS p q hp hq hh).2; rw [hb] at this; cases this)
      rw [if_neg ff, jx_b, decide_eq_false (fun hh => hh hz)]; rfl
    | true =>
      obtain ⟨g1, g2⟩ := h.2.2 p q hpS hb
      rw [if_pos rfl, pk_mul, nI_add, jx_gk _ (by omega) (by omega), nI_clamp (by omega), g1]
      by_cases hz : kd p q = 0
      · rw [if_pos ((kd_m1 g2).mpr hz), jx_b, decide_eq_false (fun hh => hh hz)]; rfl
      · rw [if_neg (fun hh => hz ((kd_m1 g2).mp hh)), jx_b, decide_eq_true hz]; rfl
  · unfold pf_X7_usesOf_s1
    dsimp only
    rw [k8, if_pos (nI_le (Nat.le_refl _) (by omega))]
theorem z_usersOf (h : MO S o kd nr ns nk) (hS : KS S kd) {p : Nat} (hp : p < 8) (hpS : bt S p = true) : pf_X7_usersOf S nk (nI p) = some (jT kd p) := by
  unfold pf_X7_usersOf
  rw [jx_forA (step := pf_X7_usersOf_s1 S nk (nI p)) (N := 8) (fun q a => a + bi (decide (kd q p ≠ 0))) (by omega) (fun q a hq => ?_) (fun a => ?_), jx_b]
  · rfl
  · unfold pf_X7_usersOf_s1
    dsimp only
    rw [k8, if_neg (nI_ge (by omega) (by omega)), z_has S (by omega), jx_b, bi0, nI_1]
    cases hb : bt S q with
    | false =>
      have hz : kd q p = 0 := Classical.byContradiction (fun hh => by have := (hS q p hq hp hh).1; rw [hb] at this; cases this)
      rw [if_neg ff, jx_b, decide_eq_false (fun hh => hh hz)]; rfl
    | true =>
      obtain ⟨g1, g2⟩ := h.2.2 q p hb hpS
      rw [if_pos rfl, pk_mul, nI_add, jx_gk _ (by omega) (by omega), nI_clamp (by omega), g1]
      by_cases hz : kd q p = 0
      · rw [if_pos ((kd_m1 g2).mpr hz), jx_b, decide_eq_false (fun hh => hh hz)]; rfl
      · rw [if_neg (fun hh => hz ((kd_m1 g2).mp hh)), jx_b, decide_eq_true hz]; rfl
  · unfold pf_X7_usersOf_s1
    dsimp only
    rw [k8, if_pos (nI_le (Nat.le_refl _) (by omega))]
theorem jF_0 (hS : KS S kd) {p : Nat} (hp : p < 8) (hb : bt S p = false) : jF kd p = 0 := by
  unfold jF
  have : ∀ n, n ≤ 8 → fold (fun q a => a + bi (decide (kd p q ≠ 0))) n (0 : Int32) = 0 := by
    intro n
    induction n with
    | zero => intro _; rfl
    | succ n ih =>
      intro hn
      show fold _ n 0 + bi (decide (kd p n ≠ 0)) = 0
      have hz : kd p n = 0 := Classical.byContradiction (fun hh => by have := (hS p n hp (by omega) hh).1; rw [hb] at this; cases this)
      rw [ih (by omega), decide_eq_false (fun hh => hh hz)]; rfl
  exact this 8 (Nat.le_refl _)
theorem z_mjoins (h : MO S o kd nr ns nk) (hS : KS S kd) : pf_X7_joins S nk = some (fold (fun p a => a + jF kd p) 8 0) := by
  unfold pf_X7_joins
  rw [jx_forA (step := pf_X7_joins_s1 S nk) (N := 8) (fun p a => a + jF kd p) (by omega) (fun q a hq => ?_) (fun a => ?_), jx_b]
  · unfold pf_X7_joins_s1
    dsimp only
    rw [k8, if_neg (nI_ge (by omega) (by omega)), z_has S (by omega), jx_b, bi0, nI_1]
    cases hb : bt S q with
    | false => rw [if_neg ff, jx_b, jF_0 hS hq hb]
    | true => rw [if_pos rfl, z_usesOf h hS hq hb, jx_b, jx_b]
  · unfold pf_X7_joins_s1
    dsimp only
    rw [k8, if_pos (nI_le (Nat.le_refl _) (by omega))]
end JN
