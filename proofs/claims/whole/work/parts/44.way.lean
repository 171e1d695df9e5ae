/-! by which way: the class's measure -/
def lv (E : Nat → Nat → Bool) (src : Nat → Bool) (p d : Nat) : Bool := rch E src d p && (decide (d = 0) || !rch E src (d - 1) p)
theorem lv_iff {E : Nat → Nat → Bool} {src : Nat → Bool} {p d : Nat} : lv E src p d = true ↔ rch E src d p = true ∧ (d = 0 ∨ rch E src (d - 1) p = false) := by
  unfold lv
  rw [Bool.and_eq_true, Bool.or_eq_true, decide_eq_true_eq, Bool.not_eq_true']
theorem lv_uniq {E : Nat → Nat → Bool} {src : Nat → Bool} {p d d' : Nat} (h : lv E src p d = true) (h' : lv E src p d' = true) : d = d' := by
  obtain ⟨h1, h2⟩ := lv_iff.mp h
  obtain ⟨g1, g2⟩ := lv_iff.mp h'
  rcases Nat.lt_trichotomy d d' with hl | hl | hl
  · rcases g2 with g2 | g2
    · omega
    · rw [rch_up (show d ≤ d' - 1 by omega) h1] at g2; cases g2
  · exact hl
  · rcases h2 with h2 | h2
    · omega
    · rw [rch_up (show d' ≤ d - 1 by omega) g1] at h2; cases h2
theorem lv_ex {E : Nat → Nat → Bool} {src : Nat → Bool} {p n : Nat} (h : rch E src n p = true) : ∃ d, d ≤ n ∧ lv E src p d = true := by
  induction n with
  | zero => exact ⟨0, Nat.le_refl _, lv_iff.mpr ⟨h, Or.inl rfl⟩⟩
  | succ n ih =>
    cases hn : rch E src n p with
    | true => obtain ⟨d, h1, h2⟩ := ih hn; exact ⟨d, by omega, h2⟩
    | false => exact ⟨n + 1, Nat.le_refl _, lv_iff.mpr ⟨h, Or.inr hn⟩⟩
/-- one nearer: it comes from there -/
theorem lv_step {E : Nat → Nat → Bool} {src : Nat → Bool} {p d : Nat} (h : lv E src p (d + 1) = true) : ∃ q, q < 8 ∧ E p q = true ∧ lv E src q d = true := by
  obtain ⟨h1, h2⟩ := lv_iff.mp h
  have h2 : rch E src d p = false := h2.resolve_left (by omega)
  rcases rch_S.mp h1 with hh | ⟨q, hq, hE, hr⟩
  · rw [hh] at h2; cases h2
  · refine ⟨q, hq, hE, lv_iff.mpr ⟨hr, ?_⟩⟩
    rcases Nat.eq_zero_or_pos d with hz | hz
    · exact Or.inl hz
    · right
      cases hn : rch E src (d - 1) q with
      | false => rfl
      | true =>
        have := rch_S.mpr (Or.inr ⟨q, hq, hE, hn⟩)
        rw [show d - 1 + 1 = d by omega, h2] at this; cases this
theorem lv_back {E : Nat → Nat → Bool} {src : Nat → Bool} {p q d : Nat} (hn : rch E src d p = false) (hq : q < 8) (hE : E p q = true) (h : lv E src q d = true) : lv E src p (d + 1) = true :=
  lv_iff.mpr ⟨rch_S.mpr (Or.inr ⟨q, hq, hE, (lv_iff.mp h).1⟩), Or.inr hn⟩
/-- by how few joins, of at most n; -1 if not by so few -/
def ds (E : Nat → Nat → Bool) (src : Nat → Bool) : Nat → Nat → Int32
  | 0, p => if src p then 0 else -1
  | n + 1, p => if rch E src n p then ds E src n p else if rch E src (n + 1) p then nI (n + 1) else -1
theorem ds_spec {E : Nat → Nat → Bool} {src : Nat → Bool} (n p : Nat) : (rch E src n p = true → ∃ d, d ≤ n ∧ ds E src n p = nI d ∧ lv E src p d = true) ∧ (rch E src n p = false → ds E src n p = -1) := by
  induction n with
  | zero =>
    constructor
    · intro h
      have h' : src p = true := h
      exact ⟨0, Nat.le_refl _, by unfold ds; rw [if_pos h']; rfl, lv_iff.mpr ⟨h, Or.inl rfl⟩⟩
    · intro h
      have h' : src p = false := h
      unfold ds; rw [h', if_neg ff]
  | succ n ih =>
    unfold ds
    cases hn : rch E src n p with
    | true =>
      obtain ⟨d, h1, h2, h3⟩ := ih.1 hn
      rw [if_pos rfl]
      exact ⟨fun _ => ⟨d, by omega, h2, h3⟩, fun h => by rw [rch_up (Nat.le_succ n) hn] at h; cases h⟩
    | false =>
      rw [if_neg ff]
      constructor
      · intro h
        rw [if_pos h]
        exact ⟨n + 1, Nat.le_refl _, rfl, lv_iff.mpr ⟨h, Or.inr hn⟩⟩
      · intro h
        rw [h, if_neg ff]
theorem ds_lv {E : Nat → Nat → Bool} {src : Nat → Bool} {n p d : Nat} (hd : d ≤ n) (hn : n < 1000) : ds E src n p = nI d ↔ lv E src p d = true := by
  constructor
  · intro h
    cases hr : rch E src n p with
    | true =>
      obtain ⟨d', h1, h2, h3⟩ := (ds_spec n p).1 hr
      rw [h2, nI_eq (by omega) (by omega)] at h
      rw [← h]; exact h3
    | false =>
      rw [(ds_spec n p).2 hr] at h
      exact absurd h.symm (nm0 d (by omega))
  · intro h
    obtain ⟨d', h1, h2, h3⟩ := (ds_spec n p).1 (rch_up hd (lv_iff.mp h).1)
    rw [h2, lv_uniq h h3]
theorem ds_m1 {E : Nat → Nat → Bool} {src : Nat → Bool} {n p : Nat} (hn : n < 1000) : ds E src n p = -1 ↔ rch E src n p = false := by
  constructor
  · intro h
    cases hr : rch E src n p with
    | false => rfl
    | true =>
      obtain ⟨d', h1, h2, h3⟩ := (ds_spec n p).1 hr
      rw [h2] at h
      exact absurd h (nm0 d' (by omega))
  · exact (ds_spec n p).2
/-- the first of some -/
def lst (P : Nat → Bool) : Nat → Nat
  | 0 => 0
  | n + 1 => if lst P n < n then lst P n else if P n then n else n + 1
theorem lst_spec (P : Nat → Bool) (n : Nat) : lst P n ≤ n ∧ (∀ j, j < lst P n → P j = false) ∧ (lst P n < n → P (lst P n) = true) := by
  induction n with
  | zero => exact ⟨Nat.le_refl _, fun j hj => by simp [lst] at hj, fun h => by omega⟩
  | succ n ih =>
    obtain ⟨h1, h2, h3⟩ := ih
    unfold lst
    by_cases hl : lst P n < n
    · rw [if_pos hl]
      exact ⟨by omega, h2, fun _ => h3 hl⟩
    · rw [if_neg hl]
      have he : lst P n = n := by omega
      rw [he] at h2
      cases hp : P n with
      | true => rw [if_pos rfl]; exact ⟨by omega, h2, fun _ => hp⟩
      | false =>
        rw [if_neg ff]
        refine ⟨Nat.le_refl _, fun j hj => ?_, fun h => by omega⟩
        by_cases hjn : j = n
        · rw [hjn]; exact hp
        · exact h2 j (by omega)
theorem lst_eq {P : Nat → Bool} {n q : Nat} (hq : q < n) (h : P q = true) (hl : ∀ j, j < q → P j = false) : lst P n = q := by
  obtain ⟨h1, h2, h3⟩ := lst_spec P n
  rcases Nat.lt_trichotomy (lst P n) q with hh | hh | hh
  · have := h3 (by omega); rw [hl _ hh] at this; cases this
  · exact hh
  · rw [h2 q hh] at h; cases h
section WY
variable {S : Int32} {o kd : Nat → Nat → Nat} {ki : Nat → Int32}
theorem z_lets (h : KX ki kd) (hS : KS S kd) {p q k : Nat} (hp : p < 8) (hq : q < 8) (hk : k ≤ 4) : pf_X3_lets ki (nI p) (nI q) (nI k) = some (bi (eE S kd k p q)) := by
  unfold pf_X3_lets eE
  rw [z_kindOf h hp hq, jx_b]
  have g2 := (h p q hp hq).2
  by_cases hz : kd p q = 0
  · rw [if_pos ((kd_m1 g2).mpr hz), decide_eq_false (fun hh => hh hz)]; simp [bi]
  · obtain ⟨s1, s2⟩ := hS p q hp hq hz
    rw [if_neg (fun hh => hz ((kd_m1 g2).mp hh)), s1, s2, decide_eq_true hz]
    by_cases hl : kd p q ≤ k
    · rw [if_neg (fun hh => by have := (kd_le g2 hk).mp hh; omega), decide_eq_true hl]; rfl
    · rw [if_pos ((kd_le g2 hk).mpr (by omega)), decide_eq_false hl]; rfl
theorem z_nearer (h : KX ki kd) (hS : KS S kd) (jl : Nat → Int32) (y : Int32) {u k : Nat} (hu : u < 8) (hk : k ≤ 4) : ∃ r, pf_X5_nearer ki jl (nI u) y (nI k) = some r ∧ ((r = -1 ∧ ∀ q, q < 8 → jl q = y → eE S kd k u q = false) ∨ ∃ q, q < 8 ∧ r = nI q ∧ jl q = y ∧ eE S kd k u q = true ∧ ∀ q', q' < q → jl q' = y → eE S kd k u q' = false) := by
  obtain ⟨r, e, hr⟩ := jx_loop0 (step := pf_X5_nearer_s1 ki jl (nI u) y (nI k)) (fun n s => s = nI n ∧ ∀ q, q < n → jl q = y → eE S kd k u q = false) (fun r => (r = .inl () ∧ ∀ q, q < 8 → jl q = y → eE S kd k u q = false) ∨ ∃ q, q < 8 ∧ r = .inr (nI q) ∧ jl q = y ∧ eE S kd k u q = true ∧ ∀ q', q' < q → jl q' = y → eE S kd k u q' = false) 8 (by omega) 0 ⟨rfl, fun q hq => by omega⟩ (by
    rintro n s hn ⟨rfl, hb⟩
    unfold pf_X5_nearer_s1
    by_cases h8 : 8 ≤ n
    · rw [k8, if_pos (nI_le h8 (by omega))]
      exact Or.inl ⟨_, rfl, Or.inl ⟨rfl, fun q hq => hb q (by omega)⟩⟩
    · rw [k8, if_neg (nI_ge (by omega) (by omega)), jx_gk _ (by omega) (by omega), nI_clamp (by omega), nI_1]
      by_cases hj : jl n = y
      · rw [if_neg (fun hh => hh hj), z_lets h hS hu (by omega) hk, jx_b, bi0]
        cases hE : eE S kd k u n with
        | true => rw [if_pos rfl]; exact Or.inl ⟨_, rfl, Or.inr ⟨n, by omega, rfl, hj, hE, hb⟩⟩
        | false =>
          rw [if_neg ff]
          refine Or.inr ⟨by omega, _, rfl, rfl, fun q hq hq2 => ?_⟩
          by_cases hqn : q = n
          · rw [hqn]; exact hE
          · exact hb q (by omega) hq2
      · rw [if_pos hj]
        refine Or.inr ⟨by omega, _, rfl, rfl, fun q hq hq2 => ?_⟩
        by_cases hqn : q = n
        · rw [hqn] at hq2; exact absurd hq2 hj
        · exact hb q (by omega) hq2)
  rcases hr with ⟨rfl, hr⟩ | ⟨q, hq, rfl, h1, h2, h3⟩
  · exact ⟨-1, by unfold pf_X5_nearer; rw [e, jx_b]; rfl, Or.inl ⟨rfl, hr⟩⟩
  · exact ⟨nI q, by unfold pf_X5_nearer; rw [e, jx_b]; rfl, Or.inr ⟨q, hq, rfl, h1, h2, h3⟩⟩
/-- a row of longs that holds each part's own reaches -/
theorem gr_own {x : Int64} {f : Nat → Nat} {i : Nat} (h : rOK x f) (hi : i < 12) (hf : f i ≤ 3) : gr x i = f i := by
  unfold gr
  rw [h _ (by omega), h _ (by omega), h _ (by omega), show (24 + i) / 12 = 2 by omega, show (24 + i) % 12 = i by omega, show (12 + i) / 12 = 1 by omega, show (12 + i) % 12 = i by omega, show i / 12 = 0 by omega, show i % 12 = i by omega, decide_eq_true (show 24 + i < 36 by omega), decide_eq_true (show 12 + i < 36 by omega), decide_eq_true (show i < 36 by omega), Bool.true_and, Bool.true_and, Bool.true_and]
  rcases (show f i = 0 ∨ f i = 1 ∨ f i = 2 ∨ f i = 3 by omega) with e | e | e | e <;> rw [e] <;> rfl
theorem z_measure {ow : Nat → Int64} (h8 : S8 S) (h : KX ki kd) (hS : KS S kd) (ho : oOK S o) (how : ∀ p, p < 8 → bt S p = true → rOK (ow p) (o p)) (jl : Nat → Int32) {i k : Nat} (hi : i < 12) (hk : k ≤ 3) : ∃ r, pf_X5_measure ow ki S jl (nI i) (nI k) = some r ∧ ∀ p, p < 8 → r p = ds (eE S kd k) (sX S o i k) 7 p := by
  obtain ⟨r1, e1, h1⟩ := jx_loop0 (step := pf_X5_measure_s1 ow S (nI i) (nI k)) (fun n s => s.1 = nI n ∧ ∀ p, p < n → s.2 p = ds (eE S kd k) (sX S o i k) 0 p) (fun r => ∀ p, p < 8 → r p = ds (eE S kd k) (sX S o i k) 0 p) 8 (by omega) ((0 : Int32), jl) ⟨rfl, fun p hp => by omega⟩ (by
    rintro n ⟨z, J⟩ hn ⟨rfl, hb⟩
    dsimp only at hb
    unfold pf_X5_measure_s1
    dsimp only
    by_cases h8' : 8 ≤ n
    · rw [k8, if_pos (nI_le h8' (by omega))]
      have : n = 8 := by omega
      subst this
      exact Or.inl ⟨_, rfl, hb⟩
    · rw [k8, if_neg (nI_ge (by omega) (by omega)), z_xhas S (by omega), jx_b, bi0]
      right
      refine ⟨by omega, (nI (n + 1), upd J n (ds (eE S kd k) (sX S o i k) 0 n)), ?_, rfl, fun p hp => ?_⟩
      · have key : ((if bt S n = true then (jx_gd (jx_in (nI n) 8)).bind fun _ => (pf_X4_greatest (ow (nI n).toNatClampNeg) (nI i)).bind fun r6 => (if ¬ r6 = nI k then some (0 : Int32) else some (1 : Int32)) else some (0 : Int32)) : Option Int32) = some (bi (sX S o i k n)) := by
          unfold sX
          cases hb : bt S n with
          | false => rw [if_neg ff]; rfl
          | true =>
            have hoo := ho n hb i hi
            rw [if_pos rfl, jx_gk _ (by omega) (by omega), nI_clamp (by omega), z_greatest _ hi, jx_b, gr_own (how n (by omega) hb) hi hoo]
            by_cases he : o n i = k
            · rw [if_neg (by rw [he]; exact fun hh => hh rfl), decide_eq_true he]; rfl
            · rw [if_pos (by rw [nI_eq (by omega) (by omega)]; exact he), decide_eq_false he]; rfl
        rw [key, jx_b, bi0]
        unfold ds
        cases sX S o i k n
        · rw [if_neg ff, jx_b, jx_gk _ (by omega) (by omega), nI_clamp (by omega), nI_1, if_neg ff]
        · rw [if_pos rfl, jx_b, jx_gk _ (by omega) (by omega), nI_clamp (by omega), nI_1, if_pos rfl]
      · dsimp only
        by_cases hpn : p = n
        · rw [hpn, pk_us]
        · rw [pk_un hpn]; exact hb p (by omega))
  obtain ⟨r, e, hr⟩ := jx_loop0 (step := pf_X5_measure_s2 ki (nI k)) (fun n s => s.1 = nI (n + 1) ∧ ∀ p, p < 8 → s.2 p = ds (eE S kd k) (sX S o i k) n p) (fun r => ∀ p, p < 8 → r p = ds (eE S kd k) (sX S o i k) 7 p) 7 (by omega) ((1 : Int32), r1) ⟨rfl, h1⟩ (by
    rintro n ⟨z, J⟩ hn ⟨rfl, hb⟩
    dsimp only at hb
    unfold pf_X5_measure_s2
    dsimp only
    by_cases h8' : 7 ≤ n
    · rw [k8, if_pos (nI_le (by omega) (by omega))]
      have : n = 7 := by omega
      subst this
      exact Or.inl ⟨_, rfl, hb⟩
    · obtain ⟨r3, e3, h3⟩ := jx_loop0 (step := pf_X5_measure_s3 ki (nI k) (nI (n + 1), J)) (fun m s => s.1 = nI m ∧ ∀ p, p < 8 → s.2 p = if p < m then ds (eE S kd k) (sX S o i k) (n + 1) p else ds (eE S kd k) (sX S o i k) n p) (fun r => ∀ p, p < 8 → r p = ds (eE S kd k) (sX S o i k) (n + 1) p) 8 (by omega) ((0 : Int32), J) ⟨rfl, fun p hp => by rw [if_neg (by omega)]; exact hb p hp⟩ (by
        rintro m ⟨z, L⟩ hm ⟨rfl, hl⟩
        dsimp only at hl
        unfold pf_X5_measure_s3
        dsimp only
        by_cases h8' : 8 ≤ m
        · rw [k8, if_pos (nI_le h8' (by omega))]
          exact Or.inl ⟨_, rfl, fun p hp => by have := hl p hp; rw [if_pos (by omega)] at this; exact this⟩
        · have hlm := hl m (by omega)
          rw [if_neg (by omega)] at hlm
          have hlq : ∀ q, q < 8 → (L q = nI n ↔ lv (eE S kd k) (sX S o i k) q n = true) := by
            intro q hq
            rw [hl q hq]
            by_cases hqm : q < m
            · rw [if_pos hqm]; exact ds_lv (by omega) (by omega)
            · rw [if_neg hqm]; exact ds_lv (Nat.le_refl _) (by omega)
          rw [k8, if_neg (nI_ge (by omega) (by omega)), jx_gk _ (by omega) (by omega), nI_clamp (by omega), nI_pred, nI_1]
          right
          refine ⟨by omega, (nI (m + 1), if rch (eE S kd k) (sX S o i k) n m = true then L else if rch (eE S kd k) (sX S o i k) (n + 1) m = true then upd L m (nI (n + 1)) else L), ?_, rfl, fun p hp => ?_⟩
          · cases hr : rch (eE S kd k) (sX S o i k) n m with
            | true => rw [if_pos (by rw [hlm, ds_m1 (by omega), hr]; decide), jx_b, if_pos rfl]
            | false =>
              rw [if_neg (by rw [hlm, ds_m1 (by omega), hr]; decide), if_neg ff]
              obtain ⟨x, ex, hx⟩ := z_nearer h hS L (nI n) (u := m) (k := k) (by omega) (by omega)
              rw [ex, jx_b]
              rcases hx with ⟨rfl, hx⟩ | ⟨q, hq, rfl, g1, g2, _⟩
              · have hno : rch (eE S kd k) (sX S o i k) (n + 1) m = false := by
                  cases hh : rch (eE S kd k) (sX S o i k) (n + 1) m with
                  | false => rfl
                  | true =>
                    obtain ⟨q, hq, hE, hl2⟩ := lv_step (lv_iff.mpr ⟨hh, Or.inr hr⟩)
                    rw [hx q hq ((hlq q hq).mpr hl2)] at hE; cases hE
                rw [if_pos rfl, jx_b, hno, if_neg ff]
              · have hyes : rch (eE S kd k) (sX S o i k) (n + 1) m = true := (lv_iff.mp (lv_back hr hq g2 ((hlq q hq).mp g1))).1
                rw [if_neg (nm0 q (by omega)), jx_gk _ (by omega) (by omega), jx_b, hyes, if_pos rfl]
          · dsimp only
            by_cases hpm : p = m
            · subst hpm
              rw [if_pos (show p < p + 1 by omega)]
              show _ = if rch (eE S kd k) (sX S o i k) n p = true then ds (eE S kd k) (sX S o i k) n p else if rch (eE S kd k) (sX S o i k) (n + 1) p = true then nI (n + 1) else -1
              cases hr : rch (eE S kd k) (sX S o i k) n p with
              | true => rw [if_pos rfl, if_pos rfl]; exact hlm
              | false =>
                rw [if_neg ff, if_neg ff]
                cases hh : rch (eE S kd k) (sX S o i k) (n + 1) p with
                | true => rw [if_pos rfl, if_pos rfl, pk_us]
                | false => rw [if_neg ff, if_neg ff, hlm]; exact (ds_m1 (by omega)).mpr hr
            · have e1 : (if rch (eE S kd k) (sX S o i k) n m = true then L else if rch (eE S kd k) (sX S o i k) (n + 1) m = true then upd L m (nI (n + 1)) else L) p = L p := by
                split
                · rfl
                · split
                  · exact pk_un hpm
                  · rfl
              rw [e1, hl p hp]
              by_cases h2 : p < m
              · rw [if_pos h2, if_pos (by omega)]
              · rw [if_neg h2, if_neg (by omega)])
      rw [k8, if_neg (nI_ge (by omega) (by omega)), e3, jx_b, nI_1]
      exact Or.inr ⟨by omega, _, rfl, rfl, h3⟩)
  exact ⟨r, by unfold pf_X5_measure; rw [e1, jx_b, e, jx_b], hr⟩
end WY
