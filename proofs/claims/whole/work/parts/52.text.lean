/-! texts: where the page stops being terms -/
theorem nI_rng {x : Int32} {a b : Nat} (ha : a < 2 ^ 31) (hb : b < 2 ^ 31) (h1 : ¬ x < nI a) (h2 : ¬ nI b < x) : ∃ k, a ≤ k ∧ k ≤ b ∧ x = nI k := by
  have hx : ¬ x < 0 := by
    intro h
    apply h1
    rw [Int32.lt_iff_toInt_lt] at h ⊢
    rw [nI_toInt ha]
    have : (0 : Int32).toInt = 0 := by decide
    omega
  obtain ⟨k, hk, rfl⟩ := nI_of hx
  rw [nI_ltI hk ha] at h1
  rw [nI_ltI hb hk] at h2
  exact ⟨k, by omega, by omega, rfl⟩
theorem z_item (c : Int32) : ∃ r, pf_X2_itemOf c = some r ∧ pf_X7_itemOf c = some r ∧ (r = -1 ∨ ∃ i, i < 12 ∧ r = nI i ∧ ¬ c = 43 ∧ ¬ c = 42) := by
  have up : (¬ c < 80) → (¬ 85 < c) → ∃ i, i < 12 ∧ c - 80 + 6 = nI i ∧ ¬ c = 43 ∧ ¬ c = 42 := by
    intro h1 h2
    obtain ⟨k, a, b, rfl⟩ := nI_rng (a := 80) (b := 85) (by omega) (by omega) h1 h2
    refine ⟨k - 80 + 6, by omega, ?_, ?_, ?_⟩
    · rw [show (80 : Int32) = nI 80 from rfl, pk_sub a, k6, nI_add]
    · rw [show (43 : Int32) = nI 43 from rfl, nI_eq (by omega) (by omega)]; omega
    · rw [show (42 : Int32) = nI 42 from rfl, nI_eq (by omega) (by omega)]; omega
  have lo : (¬ c < 112) → (¬ 117 < c) → ∃ i, i < 12 ∧ c - 112 = nI i ∧ ¬ c = 43 ∧ ¬ c = 42 := by
    intro h1 h2
    obtain ⟨k, a, b, rfl⟩ := nI_rng (a := 112) (b := 117) (by omega) (by omega) h1 h2
    refine ⟨k - 112, by omega, ?_, ?_, ?_⟩
    · rw [show (112 : Int32) = nI 112 from rfl, pk_sub a]
    · rw [show (43 : Int32) = nI 43 from rfl, nI_eq (by omega) (by omega)]; omega
    · rw [show (42 : Int32) = nI 42 from rfl, nI_eq (by omega) (by omega)]; omega
  have tail : ∃ r, (if c < 80 then some (-1 : Int32) else if (85 : Int32) < c then some (-1) else some (c - 80 + 6)) = some r ∧ ((pf_X7_within c 80 85).bind fun r2 => if r2 = 0 then some (-1 : Int32) else some (c - 80 + 6)) = some r ∧ (r = -1 ∨ ∃ i, i < 12 ∧ r = nI i ∧ ¬ c = 43 ∧ ¬ c = 42) := by
    unfold pf_X7_within
    by_cases h1 : c < 80
    · rw [if_pos h1, if_pos h1, jx_b, if_pos rfl]; exact ⟨_, rfl, rfl, Or.inl rfl⟩
    · rw [if_neg h1, if_neg h1]
      by_cases h2 : 85 < c
      · rw [if_pos h2, if_pos h2, jx_b, if_pos rfl]; exact ⟨_, rfl, rfl, Or.inl rfl⟩
      · rw [if_neg h2, if_neg h2, jx_b, if_neg n1n0]; exact ⟨_, rfl, rfl, Or.inr (up h1 h2)⟩
  obtain ⟨r, t1, t2, t3⟩ := tail
  unfold pf_X2_itemOf pf_X7_itemOf
  rw [show pf_X7_within c 112 117 = (if c < 112 then some 0 else (if (117 : Int32) < c then some 0 else some 1)) from rfl]
  by_cases h1 : c < 112
  · rw [if_pos h1, if_pos h1, jx_b, if_pos rfl]; exact ⟨r, t1, t2, t3⟩
  · rw [if_neg h1, if_neg h1]
    by_cases h2 : 117 < c
    · rw [if_pos h2, if_pos h2, jx_b, if_pos rfl]; exact ⟨r, t1, t2, t3⟩
    · rw [if_neg h2, if_neg h2, jx_b, if_neg n1n0]; exact ⟨_, rfl, rfl, Or.inr (lo h1 h2)⟩
/-- the item that a letter means, if any -/
def itm (c : Int32) : Option Nat := match pf_X2_itemOf c with
  | some r => if r = -1 then none else some r.toNatClampNeg
  | none => none
theorem itm_spec (c : Int32) : (itm c = none ∧ pf_X2_itemOf c = some (-1) ∧ pf_X7_itemOf c = some (-1)) ∨ ∃ i, i < 12 ∧ itm c = some i ∧ pf_X2_itemOf c = some (nI i) ∧ pf_X7_itemOf c = some (nI i) ∧ ¬ c = 43 ∧ ¬ c = 42 := by
  obtain ⟨r, e1, e2, h⟩ := z_item c
  unfold itm
  rw [e1]
  rcases h with rfl | ⟨i, hi, rfl, h1, h2⟩
  · exact Or.inl ⟨rfl, rfl, e2⟩
  · refine Or.inr ⟨i, hi, ?_, rfl, e2, h1, h2⟩
    dsimp only
    rw [if_neg (nm0 i (by omega)), nI_clamp (by omega)]
def updN (f : Nat → Nat) (i v : Nat) : Nat → Nat := fun j => if j = i then v else f j
theorem updN_s {f : Nat → Nat} {i v : Nat} : updN f i v i = v := if_pos rfl
theorem updN_n {f : Nat → Nat} {i v j : Nat} (h : j ≠ i) : updN f i v j = f j := if_neg h
def nz (n : Nat) : Bool := decide (n ≠ 0)
theorem nz_t {n : Nat} (h : n ≠ 0) : nz n = true := decide_eq_true h
theorem nz_f {n : Nat} (h : n = 0) : nz n = false := decide_eq_false (fun hh => hh h)
/-- the reach that a sign gives -/
def sgn (c : Int32) : Nat := if c = 43 then 2 else if c = 42 then 3 else 1
def pstep (c : Int32) (st : (Nat → Nat) × Option Nat) : Option ((Nat → Nat) × Option Nat) := match itm c with
  | some i => if st.1 i = 0 then some (updN st.1 i 1, some i) else none
  | none => match st.2 with
    | some l => if sgn c = 1 then none else some (updN st.1 l (sgn c), none)
    | none => none
def prun (cd : Nat → Int32) : Nat → Option ((Nat → Nat) × Option Nat)
  | 0 => some (fun _ => 0, none)
  | n + 1 => (prun cd n).bind (pstep (cd n))
theorem prun_S (cd : Nat → Int32) (n : Nat) : prun cd (n + 1) = (prun cd n).bind (pstep (cd n)) := rfl
theorem prun_ok (cd : Nat → Int32) (n : Nat) : ∀ st, prun cd n = some st → (∀ i, st.1 i ≤ 3) ∧ (∀ i, 12 ≤ i → st.1 i = 0) ∧ ∀ l, st.2 = some l → l < 12 ∧ st.1 l = 1 := by
  induction n with
  | zero => intro st h; cases h; exact ⟨fun _ => Nat.zero_le _, fun _ _ => rfl, fun l hl => by cases hl⟩
  | succ n ih =>
    intro st h
    rw [prun_S] at h
    obtain ⟨s0, h0, h1⟩ := jx_bs h
    obtain ⟨g1, g2, g3⟩ := ih s0 h0
    unfold pstep at h1
    rcases itm_spec (cd n) with ⟨e, _, _⟩ | ⟨i, hi, e, _, _, _, _⟩
    · rw [e] at h1
      dsimp only at h1
      cases hs : s0.2 with
      | none => rw [hs] at h1; cases h1
      | some l =>
        rw [hs] at h1
        dsimp only at h1
        by_cases hsg : sgn (cd n) = 1
        · rw [if_pos hsg] at h1; cases h1
        · rw [if_neg hsg] at h1
          cases h1
          have hl := g3 l hs
          have h3 : sgn (cd n) ≤ 3 := by unfold sgn; split; omega; split; omega; omega
          refine ⟨fun j => ?_, fun j hj => ?_, fun l' hl' => by cases hl'⟩
          · dsimp only [updN]; split; exact h3; exact g1 j
          · dsimp only [updN]; rw [if_neg (by omega)]; exact g2 j hj
    · rw [e] at h1
      dsimp only at h1
      by_cases hz : s0.1 i = 0
      · rw [if_pos hz] at h1
        cases h1
        refine ⟨fun j => ?_, fun j hj => ?_, fun l' hl' => ?_⟩
        · dsimp only [updN]; split; omega; exact g1 j
        · dsimp only [updN]; rw [if_neg (by omega)]; exact g2 j hj
        · cases hl'
          exact ⟨hi, by dsimp only [updN]; rw [if_pos rfl]⟩
      · rw [if_neg hz] at h1; cases h1
theorem prun_none {cd : Nat → Int32} {k n : Nat} (h : k ≤ n) (hk : prun cd k = none) : prun cd n = none := by
  induction h with
  | refl => exact hk
  | step _ ih => rw [prun_S, ih]; rfl
theorem z_reachOf (c : Int32) : pf_X2_reachOf c = some (nI (sgn c)) := by
  unfold pf_X2_reachOf sgn
  by_cases h1 : c = 43
  · rw [if_neg (fun hh => hh h1), if_pos h1]; rfl
  · rw [if_pos h1, if_neg h1]
    by_cases h2 : c = 42
    · rw [if_neg (fun hh => hh h2), if_pos h2]; rfl
    · rw [if_pos h2, if_neg h2]; rfl
theorem sgn_le (c : Int32) : 1 ≤ sgn c ∧ sgn c ≤ 3 := by unfold sgn; split; omega; split; omega; omega
/-- the place of the fault -/
def flt (cd : Nat → Int32) (n k : Nat) : Prop := k ≤ n ∧ prun cd k ≠ none ∧ (k < n → prun cd (k + 1) = none)
theorem flt_uniq {cd : Nat → Int32} {n k k' : Nat} (h : flt cd n k) (h' : flt cd n k') : k = k' := by
  obtain ⟨a1, a2, a3⟩ := h
  obtain ⟨b1, b2, b3⟩ := h'
  rcases Nat.lt_trichotomy k k' with hl | hl | hl
  · exact absurd (prun_none (show k + 1 ≤ k' by omega) (a3 (by omega))) b2
  · exact hl
  · exact absurd (prun_none (show k' + 1 ≤ k by omega) (b3 (by omega))) a2
theorem z_firstFault {cd : Nat → Int32} {n : Nat} (hn : n ≤ 24) : ∃ k, pf_X2_firstFault (nI n) cd = some (nI k) ∧ flt cd n k := by
  obtain ⟨r, e, hr⟩ := jx_loop0 (step := pf_X2_firstFault_s1 (nI n) cd) (fun k s => s.2.2 = nI k ∧ ∃ st, prun cd k = some st ∧ (∀ i, i < 32 → bt s.1 i = nz (st.1 i)) ∧ s.2.1 = bi st.2.isSome) (fun r => (r = .inl () ∧ prun cd n ≠ none) ∨ ∃ k, k < n ∧ r = .inr (nI k) ∧ flt cd n k) n (by omega) ((0 : Int32), (0 : Int32), (0 : Int32)) ⟨rfl, _, rfl, fun i _ => by rw [b_0]; rfl, rfl⟩ (by
    rintro k ⟨x, y, z⟩ hk ⟨rfl, st, h0, hb, rfl⟩
    dsimp only at hb
    obtain ⟨g1, g2, g3⟩ := prun_ok cd k st h0
    unfold pf_X2_firstFault_s1
    dsimp only
    by_cases hkn : k = n
    · subst hkn
      rw [if_pos (nI_le (Nat.le_refl _) (by omega))]
      exact Or.inl ⟨_, rfl, Or.inl ⟨rfl, (by rw [h0]; simp)⟩⟩
    · rw [if_neg (nI_ge (by omega) (by omega)), jx_gk _ (by omega) (by omega), nI_clamp (by omega)]
      have hfail : pstep (cd k) st = none → flt cd n k := fun hp => ⟨by omega, (by rw [h0]; simp), fun _ => (by rw [prun_S, h0]; exact hp)⟩
      rcases itm_spec (cd k) with ⟨ei, e1, _⟩ | ⟨i, hi, ei, e1, _, _, _⟩
      · rw [e1, jx_b, if_neg (fun hh => hh rfl)]
        have hfit : ((if bi st.2.isSome = 0 then some (0 : Int32) else (jx_gd (jx_in (nI k) 24)).bind fun _ => (pf_X2_reachOf (cd k)).bind fun r7 => (if r7 = (1 : Int32) then some (0 : Int32) else some (1 : Int32))) : Option Int32) = some (bi (pstep (cd k) st).isSome) := by
          unfold pstep
          rw [ei]
          dsimp only
          rw [bi0]
          cases st.2 with
          | none => rfl
          | some l =>
            dsimp only [Option.isSome]
            rw [if_pos rfl, jx_gk _ (by omega) (by omega), z_reachOf, jx_b]
            have := sgn_le (cd k)
            by_cases hs : sgn (cd k) = 1
            · rw [if_pos (show nI (sgn (cd k)) = 1 by rw [hs]; rfl), if_pos hs]; rfl
            · rw [if_neg (show ¬ nI (sgn (cd k)) = 1 by rw [k1, nI_eq (by omega) (by omega)]; exact hs), if_neg hs]; rfl
        rw [hfit, jx_b, bin]
        cases hp : pstep (cd k) st with
        | none =>
          rw [Option.isSome_none, if_neg ff]
          exact Or.inl ⟨_, rfl, Or.inr ⟨k, by omega, rfl, hfail hp⟩⟩
        | some st' =>
          rw [Option.isSome_some, if_pos rfl, if_pos rfl, jx_b, if_pos rfl, jx_b, nI_1]
          refine Or.inr ⟨by omega, _, rfl, rfl, st', by rw [prun_S, h0]; exact hp, fun j hj => ?_, ?_⟩
          · dsimp only
            rw [b_or, b_0, Bool.or_false, hb j hj]
            unfold pstep at hp
            rw [ei] at hp
            dsimp only at hp
            cases hs : st.2 with
            | none => rw [hs] at hp; cases hp
            | some l =>
              rw [hs] at hp
              dsimp only at hp
              by_cases hsg : sgn (cd k) = 1
              · rw [if_pos hsg] at hp; cases hp
              · rw [if_neg hsg] at hp
                cases hp
                have := sgn_le (cd k)
                show nz (st.1 j) = nz (updN st.1 l (sgn (cd k)) j)
                by_cases hjl : j = l
                · rw [hjl, updN_s, (g3 l hs).2, nz_t (by omega), nz_t (by omega)]
                · rw [updN_n hjl]
          · unfold pstep at hp
            rw [ei] at hp
            dsimp only at hp
            cases hs : st.2 with
            | none => rw [hs] at hp; cases hp
            | some l =>
              rw [hs] at hp
              dsimp only at hp
              by_cases hsg : sgn (cd k) = 1
              · rw [if_pos hsg] at hp; cases hp
              · rw [if_neg hsg] at hp
                cases hp; rfl
      · rw [e1, jx_b, if_pos (nm0 i (by omega)), z_isSet32 x (by omega), jx_b, bin, hb i (by omega)]
        by_cases hz : st.1 i = 0
        · have hp : pstep (cd k) st = some (updN st.1 i 1, some i) := by
            unfold pstep; rw [ei]; dsimp only; rw [if_pos hz]
          rw [nz_f hz, if_neg ff, jx_b, if_pos n1n0, if_neg (nm0 i (by omega)), jx_b, if_neg n1n0, jx_b, nI_1]
          refine Or.inr ⟨by omega, _, rfl, rfl, _, by rw [prun_S, h0]; exact hp, fun j hj => ?_, rfl⟩
          show bt (x ||| (1 <<< (nI i &&& 31))) j = nz (updN st.1 i 1 j)
          rw [b_or, b_one i (by omega) hj, hb j hj]
          by_cases hji : j = i
          · rw [decide_eq_true hji, Bool.or_true, hji, updN_s]; rfl
          · rw [updN_n hji, decide_eq_false hji, Bool.or_false]
        · have hp : pstep (cd k) st = none := by
            unfold pstep; rw [ei]; dsimp only; rw [if_neg hz]
          rw [nz_t hz, if_pos rfl, jx_b, if_neg (fun hh => hh rfl)]
          exact Or.inl ⟨_, rfl, Or.inr ⟨k, by omega, rfl, hfail hp⟩⟩)
  unfold pf_X2_firstFault
  rw [e, jx_b]
  rcases hr with ⟨rfl, hr⟩ | ⟨k, hk, rfl, hr⟩
  · exact ⟨n, rfl, Nat.le_refl _, hr, fun hh => by omega⟩
  · exact ⟨k, rfl, hr⟩
