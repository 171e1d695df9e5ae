/-! of, clash: alike -/
theorem dlt {j n : Nat} (h : j ≠ n) : decide (j < n + 1) = decide (j < n) := by
  by_cases h1 : j < n
  · rw [decide_eq_true h1, decide_eq_true (by omega)]
  · rw [decide_eq_false h1, decide_eq_false (by omega)]
section OF
variable {S : Int32} {o kd : Nat → Nat → Nat} {un ki nr ns nk : Nat → Int32}
def aq (S : Int32) (o kd : Nat → Nat → Nat) (w : Int32) (p a : Nat) : Bool := if w = 1 then hb S o kd a p else if w = 2 then hb S o kd (a + 6) p else clsh S o kd p a
theorem z_actsOf (h : MO S o kd nr ns nk) {p : Nat} (hp : p < 8) (w : Int32) : ∃ r, pf_X7_actsOf nr S ns nk (nI p) w = some r ∧ ∀ j, j < 32 → bt r j = (decide (j < 6) && aq S o kd w p j) := by
  obtain ⟨r, e, hr⟩ := jx_loop0 (step := pf_X7_actsOf_s1 nr S ns nk (nI p) w) (fun n s => s.2 = nI n ∧ ∀ j, j < 32 → bt s.1 j = (decide (j < n) && aq S o kd w p j)) (fun r => ∀ j, j < 32 → bt r j = (decide (j < 6) && aq S o kd w p j)) 6 (by omega) ((0 : Int32), (0 : Int32)) ⟨rfl, fun j _ => by rw [b_0, decide_eq_false (by omega)]; rfl⟩ (by
    rintro n ⟨y, z⟩ hn ⟨rfl, hbb⟩
    dsimp only at hbb
    unfold pf_X7_actsOf_s1
    dsimp only
    by_cases h6 : 6 ≤ n
    · rw [k6, if_pos (nI_le h6 (by omega))]
      have : n = 6 := by omega
      subst this
      exact Or.inl ⟨_, rfl, hbb⟩
    · obtain ⟨r1, e1, h1⟩ := z_heldBy h (i := n) (by omega)
      obtain ⟨r2, e2, h2⟩ := z_heldBy h (i := n + 6) (by omega)
      rw [k6, if_neg (nI_ge (by omega) (by omega)), e1, jx_b, z_has r1 (by omega), jx_b, nI_add, e2, jx_b, z_has r2 (by omega), jx_b, h1 p (by omega), h2 p (by omega)]
      right
      refine ⟨by omega, (y ||| (if aq S o kd w p n = true then (1 : Int32) <<< (nI n &&& 31) else 0), nI (n + 1)), ?_, rfl, fun j hj => ?_⟩
      · have key : ((if ¬ w = (1 : Int32) then (if ¬ w = (2 : Int32) then (if bi (hb S o kd n p) = 0 then some (0 : Int32) else (if bi (hb S o kd (n + 6) p) = 0 then some (0 : Int32) else some (1 : Int32))) else some (bi (hb S o kd (n + 6) p))) else some (bi (hb S o kd n p))) : Option Int32) = some (bi (aq S o kd w p n)) := by
          unfold aq
          by_cases w1 : w = 1
          · rw [if_neg (fun hh => hh w1), if_pos w1]
          · rw [if_pos w1, if_neg w1]
            by_cases w2 : w = 2
            · rw [if_neg (fun hh => hh w2), if_pos w2]
            · rw [if_pos w2, if_neg w2]
              unfold clsh
              cases hb S o kd n p <;> cases hb S o kd (n + 6) p <;> rfl
        rw [key, jx_b, bi0]
        cases aq S o kd w p n
        · rw [if_neg ff, jx_b, nI_1, if_neg ff]
        · rw [if_pos rfl, jx_b, nI_1, if_pos rfl]
      · dsimp only
        rw [bit_step (n := n) hj (by omega), hbb j hj]
        by_cases hjn : j = n
        · subst hjn; simp
        · rw [dlt hjn, decide_eq_false hjn]; simp)
  exact ⟨r, by unfold pf_X7_actsOf; rw [e, jx_b], hr⟩
theorem lit_ne {a b : Int32} (h : a.toInt ≠ b.toInt) : ¬ a = b := fun e => h (by rw [e])
theorem q_of {cm : Nat → Int64} (h : MO S o kd nr ns nk) (hX : KX ki kd) (hS : KS S kd) (hc : come S o kd cm) (hu : ∀ p, bt S p = true → un p = ns p) (x y : Int32) : ∃ r, pf_X6_of un ki cm S x y = some r ∧ pf_X7_of nr S ns nk x y = some r := by
  unfold pf_X6_of pf_X7_of
  rcases ix x 8 (by omega) with hx | ⟨a, ha, rfl⟩
  · rw [z_xhas_out S hx, z_mhas_out S hx, jx_b, jx_b, if_neg (fun hh => hh rfl), if_neg (fun hh => hh rfl)]
    exact ⟨_, rfl, rfl⟩
  · rw [z_xhas S ha, z_mhas S ha, jx_b, jx_b, bin, bin]
    cases hb : bt S a with
    | false => rw [if_neg ff, if_neg ff]; exact ⟨_, rfl, rfl⟩
    | true =>
      rw [if_pos rfl, if_pos rfl]
      rcases ix y 7 (by omega) with hy | ⟨i, hi, rfl⟩
      · have hw : pf_X7_within y 0 6 = some 0 := by
          unfold pf_X7_within
          by_cases h0 : y < 0
          · rw [if_pos h0]
          · have h1 := hy.resolve_left h0
            rw [if_neg h0, if_pos]
            rw [Int32.lt_iff_toInt_lt]
            rw [Int32.le_iff_toInt_le, nI_toInt (by omega)] at h1
            have h2 : (6 : Int32).toInt = 6 := by decide
            omega
        have hne : ∀ k, k < 7 → ¬ y = nI k := by
          intro k hk he
          rw [he] at hy
          rcases hy with hy | hy
          · exact nI_pos (by omega) hy
          · exact nI_ge (by omega) (by omega) hy
        rw [hw, jx_b, if_pos rfl, if_neg (show ¬ y = (0 : Int32) from hne 0 (by omega)), if_neg (show ¬ y = (1 : Int32) from hne 1 (by omega)), if_neg (show ¬ y = (2 : Int32) from hne 2 (by omega)), if_neg (show ¬ y = (3 : Int32) from hne 3 (by omega)), if_neg (show ¬ y = (4 : Int32) from hne 4 (by omega)), if_neg (show ¬ y = (5 : Int32) from hne 5 (by omega)), if_neg (show ¬ y = (6 : Int32) from hne 6 (by omega))]
        exact ⟨_, rfl, rfl⟩
      · rw [show (6 : Int32) = nI 6 from rfl, within_nI (by omega) (by omega), decide_eq_true (by omega), jx_b, bi0, if_pos rfl]
        unfold pf_X7_partNow
        rcases (show i = 0 ∨ i = 1 ∨ i = 2 ∨ i = 3 ∨ i = 4 ∨ i = 5 ∨ i = 6 by omega) with rfl | rfl | rfl | rfl | rfl | rfl | rfl
        · rw [if_pos (by decide), if_pos (by decide), jx_gk _ ha (by omega), jx_gk _ ha (by omega), nI_clamp (by omega), hu a hb, jx_b]
          exact ⟨_, rfl, rfl⟩
        · obtain ⟨r, e, hr⟩ := z_duties hc h.1 ha h.oOK
          obtain ⟨r', e', hr'⟩ := z_actsOf h ha (nI 1)
          rw [if_neg (by decide), if_pos (by decide), if_neg (by decide), if_neg (by decide), if_neg (by decide), if_neg (by decide), jx_gk _ ha (by omega), nI_clamp (by omega), e, e', jx_b, jx_b, jx_b]
          exact ⟨_, rfl, by rw [b_ext (x := r') (y := r) (fun j hj => by rw [hr j hj, hr' j hj]; rfl)]⟩
        · obtain ⟨r, e, hr⟩ := z_bars hc h.1 ha h.oOK
          obtain ⟨r', e', hr'⟩ := z_actsOf h ha (nI 2)
          rw [if_neg (by decide), if_neg (by decide), if_pos (by decide), if_neg (by decide), if_neg (by decide), if_neg (by decide), if_neg (by decide), jx_gk _ ha (by omega), nI_clamp (by omega), e, e', jx_b, jx_b, jx_b]
          exact ⟨_, rfl, by rw [b_ext (x := r') (y := r) (fun j hj => by rw [hr j hj, hr' j hj]; rfl)]⟩
        · obtain ⟨r, e, hr⟩ := z_meeting hc h.1 ha h.oOK
          obtain ⟨r', e', hr'⟩ := z_actsOf h ha (nI 3)
          rw [if_neg (by decide), if_neg (by decide), if_neg (by decide), if_pos (by decide), if_neg (by decide), if_neg (by decide), if_neg (by decide), if_neg (by decide), jx_gk _ ha (by omega), nI_clamp (by omega), e, e', jx_b, jx_b, jx_b]
          exact ⟨_, rfl, by rw [b_ext (x := r') (y := r) (fun j hj => by rw [hr j hj, hr' j hj]; rfl)]⟩
        · obtain ⟨r, e, hr⟩ := z_namesX h.1 hX hS ha
          obtain ⟨r', e', hr'⟩ := z_namesM h ha
          rw [if_neg (by decide), if_neg (by decide), if_neg (by decide), if_neg (by decide), if_pos (by decide), if_neg (by decide), if_pos (by decide), e, e', jx_b, jx_b, jx_b]
          exact ⟨_, rfl, by rw [b_ext (x := r') (y := r) (fun j hj => by rw [hr j hj, hr' j hj])]⟩
        · rw [if_neg (by decide), if_neg (by decide), if_neg (by decide), if_neg (by decide), if_neg (by decide), if_pos (by decide), if_neg (by decide), if_neg (by decide), if_pos (by decide), z_joinsFrom hX ha, z_usesOf h hS ha hb, jx_b, jx_b]
          exact ⟨_, rfl, rfl⟩
        · rw [if_neg (by decide), if_neg (by decide), if_neg (by decide), if_neg (by decide), if_neg (by decide), if_neg (by decide), if_pos (by decide), if_neg (by decide), if_neg (by decide), if_neg (by decide), if_pos (by decide), z_joinsTo hX ha, z_usersOf h hS ha hb, jx_b, jx_b]
          exact ⟨_, rfl, rfl⟩
/-- the places where a duty meets its bar: 6 times the part, and the act -/
def pf_P (S : Int32) (o kd : Nat → Nat → Nat) (f : Nat) : Bool := clsh S o kd (f / 6) (f % 6)
theorem z_now {cm : Nat → Int64} (h : MO S o kd nr ns nk) (hc : come S o kd cm) : ∃ r, pf_X1_now cm = some r ∧ ∀ f, f < 64 → bl r f = (decide (f < 48) && pf_P S o kd f) := by
  obtain ⟨r, e, hr⟩ := z_meetings hc h.1 h.oOK
  exact ⟨r, by unfold pf_X1_now; rw [e, jx_b], hr⟩
theorem cnt_S (P : Nat → Bool) (n : Nat) : cnt P (n + 1) = cnt P n + (if P n = true then 1 else 0) := rfl
theorem cnt_up (P : Nat → Bool) {n m : Nat} (h : n ≤ m) : cnt P n ≤ cnt P m := by
  induction h with
  | refl => exact Nat.le_refl _
  | step _ ih => rw [cnt_S]; omega
theorem cnt_at (P : Nat → Bool) {m n : Nat} (h : m < cnt P n) : ∃ f, f < n ∧ P f = true ∧ cnt P f = m := by
  induction n with
  | zero => simp [cnt] at h
  | succ n ih =>
    rw [cnt_S] at h
    by_cases h1 : m < cnt P n
    · obtain ⟨f, h2, h3, h4⟩ := ih h1
      exact ⟨f, by omega, h3, h4⟩
    · cases hp : P n with
      | false => rw [hp, if_neg ff] at h; omega
      | true => rw [hp, if_pos rfl] at h; exact ⟨n, by omega, hp, by omega⟩
theorem cnt_inj (P : Nat → Bool) {f g : Nat} (hf : P f = true) (hg : P g = true) (h : cnt P f = cnt P g) : f = g := by
  rcases Nat.lt_trichotomy f g with hl | hl | hl
  · have := cnt_up P (show f + 1 ≤ g by omega); rw [cnt_S, hf, if_pos rfl] at this; omega
  · exact hl
  · have := cnt_up P (show g + 1 ≤ f by omega); rw [cnt_S, hg, if_pos rfl] at this; omega
theorem z_layClashes (h : MO S o kd nr ns nk) (nc : Int32) (ng : Nat → Int32) : ∃ r, pf_X7_layClashes nr S ns nk nc ng = some r ∧ r.1 = nI (cnt (pf_P S o kd) 48) ∧ ∀ f, f < 48 → pf_P S o kd f = true → r.2 (cnt (pf_P S o kd) f) = nI f := by
  obtain ⟨r, e, hr⟩ := jx_loop0 (step := pf_X7_layClashes_s1 nr S ns nk) (fun n s => s.1 = nI n ∧ s.2.1 = nI (cnt (pf_P S o kd) (6 * n)) ∧ ∀ f, f < 6 * n → pf_P S o kd f = true → s.2.2 (cnt (pf_P S o kd) f) = nI f) (fun r => r.1 = nI (cnt (pf_P S o kd) 48) ∧ ∀ f, f < 48 → pf_P S o kd f = true → r.2 (cnt (pf_P S o kd) f) = nI f) 8 (by omega) ((0 : Int32), (0 : Int32), ng) ⟨rfl, rfl, fun f hf => by omega⟩ (by
    rintro n ⟨x, y, G⟩ hn ⟨rfl, rfl, hG⟩
    dsimp only at hG
    unfold pf_X7_layClashes_s1
    dsimp only
    by_cases h8 : 8 ≤ n
    · rw [k8, if_pos (nI_le h8 (by omega))]
      have : n = 8 := by omega
      subst this
      exact Or.inl ⟨_, rfl, rfl, hG⟩
    · obtain ⟨r, e, hr⟩ := jx_loop0 (step := pf_X7_layClashes_s2 nr S ns nk (nI n, nI (cnt (pf_P S o kd) (6 * n)), G)) (fun m s => s.1 = nI m ∧ s.2.1 = nI (cnt (pf_P S o kd) (6 * n + m)) ∧ ∀ f, f < 6 * n + m → pf_P S o kd f = true → s.2.2 (cnt (pf_P S o kd) f) = nI f) (fun r => r.1 = nI (cnt (pf_P S o kd) (6 * (n + 1))) ∧ ∀ f, f < 6 * (n + 1) → pf_P S o kd f = true → r.2 (cnt (pf_P S o kd) f) = nI f) 6 (by omega) ((0 : Int32), nI (cnt (pf_P S o kd) (6 * n)), G) ⟨rfl, rfl, hG⟩ (by
        rintro m ⟨x, y, L⟩ hm ⟨rfl, rfl, hL⟩
        dsimp only at hL
        unfold pf_X7_layClashes_s2
        dsimp only
        by_cases h6 : 6 ≤ m
        · rw [k6, if_pos (nI_le h6 (by omega))]
          have : m = 6 := by omega
          subst this
          exact Or.inl ⟨_, rfl, rfl, hL⟩
        · obtain ⟨r, e, hr⟩ := z_clashing h (a := m) (by omega)
          rw [k6, if_neg (nI_ge (by omega) (by omega)), e, jx_b, z_has r (by omega), jx_b, bi0, hr n (by omega), nI_1]
          have hP : clsh S o kd n m = pf_P S o kd (6 * n + m) := by
            unfold pf_P
            rw [show (6 * n + m) / 6 = n by omega, show (6 * n + m) % 6 = m by omega]
          have hc := cnt_le (pf_P S o kd) (6 * n + m)
          rw [hP]
          right
          refine ⟨by omega, ?_⟩
          cases hp : pf_P S o kd (6 * n + m) with
          | false =>
            refine ⟨(nI (m + 1), nI (cnt (pf_P S o kd) (6 * n + m)), L), ?_, rfl, ?_, fun f hf hpf => ?_⟩
            · rw [if_neg ff, jx_b, nI_1]
            · dsimp only; rw [← Nat.add_assoc, cnt_S, hp, if_neg ff]; rfl
            · dsimp only
              by_cases hfn : f = 6 * n + m
              · rw [hfn, hp] at hpf; cases hpf
              · exact hL f (by omega) hpf
          | true =>
            refine ⟨(nI (m + 1), nI (cnt (pf_P S o kd) (6 * n + m) + 1), upd L (cnt (pf_P S o kd) (6 * n + m)) (nI (6 * n + m))), ?_, rfl, ?_, fun f hf hpf => ?_⟩
            · rw [if_pos rfl, jx_gk _ (by omega) (by omega), jx_b, nI_clamp (by omega), pk_mul, nI_add, nI_1]
            · dsimp only; rw [← Nat.add_assoc, cnt_S, hp, if_pos rfl]
            · dsimp only
              by_cases hfn : f = 6 * n + m
              · rw [hfn, pk_us]
              · have : cnt (pf_P S o kd) f ≠ cnt (pf_P S o kd) (6 * n + m) := fun hh => hfn (cnt_inj _ hpf hp hh)
                rw [pk_un this]; exact hL f (by omega) hpf)
      rw [k8, if_neg (nI_ge (by omega) (by omega)), e, jx_b, nI_1]
      exact Or.inr ⟨by omega, _, rfl, rfl, hr.1, hr.2⟩)
  exact ⟨_, by unfold pf_X7_layClashes; rw [e, jx_b], hr.1, hr.2⟩
theorem z_at {cm : Nat → Int64} (h : MO S o kd nr ns nk) (hc : come S o kd cm) (y : Int32) : ∃ r, pf_X1_at cm y = some r ∧ ((∃ f, f < 48 ∧ pf_P S o kd f = true ∧ y = nI (cnt (pf_P S o kd) f) ∧ r = nI f) ∨ (r = -1 ∧ ∀ f, f < 48 → pf_P S o kd f = true → ¬ y = nI (cnt (pf_P S o kd) f))) := by
  obtain ⟨a, ea, ha⟩ := z_now h hc
  obtain ⟨r, e, hr⟩ := jx_loop0 (step := pf_X1_at_s1 y a) (fun n s => s.2 = nI n ∧ s.1 = nI (cnt (pf_P S o kd) n) ∧ ∀ f, f < n → pf_P S o kd f = true → ¬ y = nI (cnt (pf_P S o kd) f)) (fun r => (∃ f, f < 48 ∧ pf_P S o kd f = true ∧ y = nI (cnt (pf_P S o kd) f) ∧ r = .inr (nI f)) ∨ (r = .inl () ∧ ∀ f, f < 48 → pf_P S o kd f = true → ¬ y = nI (cnt (pf_P S o kd) f))) 48 (by omega) ((0 : Int32), (0 : Int32)) ⟨rfl, rfl, fun f hf => by omega⟩ (by
    rintro n ⟨x, z⟩ hn ⟨rfl, rfl, hb⟩
    unfold pf_X1_at_s1
    dsimp only
    by_cases h48 : 48 ≤ n
    · rw [k48, if_pos (nI_le h48 (by omega))]
      exact Or.inl ⟨_, rfl, Or.inr ⟨rfl, fun f hf => hb f (by omega)⟩⟩
    · rw [k48, if_neg (nI_ge (by omega) (by omega)), z_isSet a (by omega), jx_b, bi0, ha n (by omega), decide_eq_true (by omega), Bool.true_and, nI_1, nI_1]
      cases hp : pf_P S o kd n with
      | false =>
        rw [if_neg ff]
        refine Or.inr ⟨by omega, _, rfl, rfl, ?_, fun f hf hpf => ?_⟩
        · dsimp only; rw [cnt_S, hp, if_neg ff]; rfl
        · by_cases hfn : f = n
          · rw [hfn, hp] at hpf; cases hpf
          · exact hb f (by omega) hpf
      | true =>
        rw [if_pos rfl]
        by_cases hy : nI (cnt (pf_P S o kd) n) = y
        · rw [if_neg (fun hh => hh hy)]
          exact Or.inl ⟨_, rfl, Or.inl ⟨n, by omega, hp, hy.symm, rfl⟩⟩
        · rw [if_pos hy]
          refine Or.inr ⟨by omega, _, rfl, rfl, ?_, fun f hf hpf => ?_⟩
          · dsimp only; rw [cnt_S, hp, if_pos rfl]
          · by_cases hfn : f = n
            · rw [hfn]; exact fun hh => hy hh.symm
            · exact hb f (by omega) hpf)
  unfold pf_X1_at
  rw [ea, jx_b, e, jx_b]
  rcases hr with ⟨f, h1, h2, h3, rfl⟩ | ⟨rfl, hr⟩
  · exact ⟨_, rfl, Or.inl ⟨f, h1, h2, h3, rfl⟩⟩
  · exact ⟨_, rfl, Or.inr ⟨rfl, hr⟩⟩
theorem q_clash {cm : Nat → Int64} (h : MO S o kd nr ns nk) (hc : come S o kd cm) (nc : Int32) (ng : Nat → Int32) (y : Int32) : ∃ r r', pf_X6_clash cm y = some r ∧ pf_X7_clash nr S ns nk nc ng y = some r' ∧ r = r'.1 := by
  obtain ⟨r, e, hr⟩ := z_at h hc y
  obtain ⟨q, eq, q1, q2⟩ := z_layClashes h nc ng
  have hc48 := cnt_le (pf_P S o kd) 48
  unfold pf_X6_clash pf_X7_clash
  rw [e, eq, jx_b, jx_b, q1]
  by_cases hy : y < 0
  · rw [within_neg hy, jx_b, if_pos rfl]
    rcases hr with ⟨f, h1, h2, h3, _⟩ | ⟨rfl, _⟩
    · have := cnt_le (pf_P S o kd) f
      rw [h3] at hy
      exact absurd hy (nI_pos (by omega))
    · rw [if_neg (fun hh => hh rfl)]; exact ⟨_, _, rfl, rfl, rfl⟩
  · obtain ⟨m, hm, rfl⟩ := nI_of hy
    rcases Nat.eq_zero_or_pos (cnt (pf_P S o kd) 48) with hz | hz
    · rw [hz, show nI 0 - 1 = -1 by decide, within_m1, jx_b, if_pos rfl]
      rcases hr with ⟨f, h1, h2, h3, _⟩ | ⟨rfl, _⟩
      · have := cnt_up (pf_P S o kd) (show f + 1 ≤ 48 by omega)
        rw [cnt_S, h2, if_pos rfl] at this; omega
      · rw [if_neg (fun hh => hh rfl)]; exact ⟨_, _, rfl, rfl, rfl⟩
    · rw [show nI (cnt (pf_P S o kd) 48) - 1 = nI (cnt (pf_P S o kd) 48 - 1) by rw [k1, pk_sub (by omega)], within_nI hm (by omega), jx_b, bi0]
      by_cases hlt : m ≤ cnt (pf_P S o kd) 48 - 1
      · obtain ⟨f, f1, f2, f3⟩ := cnt_at (pf_P S o kd) (show m < cnt (pf_P S o kd) 48 by omega)
        rw [decide_eq_true hlt, if_pos rfl, jx_gk _ (by omega) (by omega), nI_clamp (by omega), ← f3, q2 f f1 f2]
        rcases hr with ⟨g, g1, g2, g3, rfl⟩ | ⟨_, hr⟩
        · have := cnt_le (pf_P S o kd) g
          rw [nI_eq (by omega) (by omega), ← f3] at g3
          have := cnt_inj _ f2 g2 g3
          subst this
          rw [if_pos (nm0 f (by omega))]; exact ⟨_, _, rfl, rfl, rfl⟩
        · exact absurd (by rw [f3]) (hr f f1 f2)
      · rw [decide_eq_false hlt, if_neg ff]
        rcases hr with ⟨f, h1, h2, h3, _⟩ | ⟨rfl, _⟩
        · have := cnt_up (pf_P S o kd) (show f + 1 ≤ 48 by omega)
          rw [cnt_S, h2, if_pos rfl] at this
          rw [nI_eq (by omega) (by omega)] at h3; omega
        · rw [if_neg (fun hh => hh rfl)]; exact ⟨_, _, rfl, rfl, rfl⟩
end OF
