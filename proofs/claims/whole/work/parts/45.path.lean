/-! the way itself, on both sides -/
/-- the parts of the way: from a part that is d0 joins away -/
def wy (S : Int32) (o kd : Nat → Nat → Nat) (i k a d0 : Nat) : Nat → Nat
  | 0 => a
  | s + 1 => lst (fun q => eE S kd k (wy S o kd i k a d0 s) q && lv (eE S kd k) (sX S o i k) q (d0 - (s + 1))) 8
theorem wy_lv {S : Int32} {o kd : Nat → Nat → Nat} {i k a d0 : Nat} (ha : a < 8) (h0 : lv (eE S kd k) (sX S o i k) a d0 = true) : ∀ s, s ≤ d0 → wy S o kd i k a d0 s < 8 ∧ lv (eE S kd k) (sX S o i k) (wy S o kd i k a d0 s) (d0 - s) = true := by
  intro s
  induction s with
  | zero => intro _; exact ⟨ha, h0⟩
  | succ s ih =>
    intro hs
    obtain ⟨h1, h2⟩ := ih (by omega)
    rw [show d0 - s = d0 - (s + 1) + 1 by omega] at h2
    obtain ⟨q, hq, hE, hl⟩ := lv_step h2
    obtain ⟨g1, g2, g3⟩ := lst_spec (fun q => eE S kd k (wy S o kd i k a d0 s) q && lv (eE S kd k) (sX S o i k) q (d0 - (s + 1))) 8
    have hlt : lst (fun q => eE S kd k (wy S o kd i k a d0 s) q && lv (eE S kd k) (sX S o i k) q (d0 - (s + 1))) 8 < 8 := by
      rcases Nat.lt_or_ge (lst (fun q => eE S kd k (wy S o kd i k a d0 s) q && lv (eE S kd k) (sX S o i k) q (d0 - (s + 1))) 8) 8 with hh | hh
      · exact hh
      · have := g2 q (by omega)
        rw [hE, hl] at this; cases this
    have := g3 hlt
    rw [Bool.and_eq_true] at this
    exact ⟨hlt, this.2⟩
section PT
variable {S : Int32} {o kd : Nat → Nat → Nat} {ki nr ns nk : Nat → Int32}
theorem z_partAt {ow cm : Nat → Int64} (h8 : S8 S) (h : KX ki kd) (hS : KS S kd) (ho : oOK S o) (how : ∀ p, p < 8 → bt S p = true → rOK (ow p) (o p)) (hc : come S o kd cm) (jl : Nat → Int32) {i a : Nat} (hi : i < 12) (ha : a < 8) (y : Int32) : ∃ r, pf_X5_partAt ow ki cm S jl (nI a) (nI i) y = some r ∧ ((hd S o kd i a = 0 ∧ r.1 = -1) ∨ ∃ d0, d0 ≤ 7 ∧ lv (eE S kd (hd S o kd i a)) (sX S o i (hd S o kd i a)) a d0 = true ∧ hd S o kd i a ≠ 0 ∧ ((y < 0 ∧ r.1 = -1) ∨ ∃ m, m < 2 ^ 31 ∧ y = nI m ∧ ((d0 < m ∧ r.1 = -1) ∨ (m ≤ d0 ∧ r.1 = nI (wy S o kd i (hd S o kd i a) a d0 m))))) := by
  have hk3 : hd S o kd i a ≤ 3 := hd_le
  have hh : pf_X3_reachHeld cm (nI a) (nI i) = some (nI (hd S o kd i a)) := by
    unfold pf_X3_reachHeld
    rw [jx_gk _ ha (by omega), nI_clamp (by omega), z_greatest _ hi, jx_b, z_gr hc h8 hi ha (fun p hp => ho p hp i hi)]
  unfold pf_X5_partAt
  rw [hh, jx_b]
  by_cases hz : hd S o kd i a = 0
  · rw [if_pos (by rw [hz]; rfl)]
    exact ⟨_, rfl, Or.inl ⟨hz, rfl⟩⟩
  · have hcx : rch (eE S kd (hd S o kd i a)) (sX S o i (hd S o kd i a)) 7 a = true := by
      have e : cX S o kd i (hd S o kd i a) a = true := by
        unfold hd at hz ⊢
        cases h3 : cX S o kd i 3 a with
        | true => rw [if_pos rfl]; exact h3
        | false =>
          rw [h3, if_neg ff] at hz
          rw [if_neg ff]
          cases h2 : cX S o kd i 2 a with
          | true => rw [if_pos rfl]; exact h2
          | false =>
            rw [h2, if_neg ff] at hz
            rw [if_neg ff]
            cases h1 : cX S o kd i 1 a with
            | true => rw [if_pos rfl]; exact h1
            | false => rw [h1, if_neg ff] at hz; exact absurd rfl hz
      exact e
    obtain ⟨d0, hd0, hl0⟩ := lv_ex hcx
    generalize hd S o kd i a = k at *
    rw [if_neg (by rw [k0, nI_eq (by omega) (by omega)]; exact hz)]
    by_cases hy : y < 0
    · rw [if_neg (fun hq => by rw [Int32.le_iff_toInt_le] at hq; rw [Int32.lt_iff_toInt_lt] at hy; omega)]
      exact ⟨_, rfl, Or.inr ⟨d0, hd0, hl0, hz, Or.inl ⟨hy, rfl⟩⟩⟩
    · obtain ⟨m, hm, rfl⟩ := nI_of hy
      obtain ⟨J, eJ, hJ⟩ := z_measure h8 h hS ho how jl hi (k := k) (by omega)
      have hJa : J a = nI d0 := by rw [hJ a ha]; exact (ds_lv (by omega) (by omega)).mpr hl0
      rw [if_pos (nI_pos' hm), eJ, jx_b, jx_gk _ ha (by omega), nI_clamp (by omega), hJa]
      by_cases hmd : m ≤ d0
      · rw [if_pos (nI_le hmd (by omega))]
        obtain ⟨r, e, hr⟩ := jx_loop0 (step := pf_X5_partAt_s1 ki (nI m) (nI k) J) (fun n s => s = (nI (wy S o kd i k a d0 n), nI n)) (fun r => r = nI (wy S o kd i k a d0 m)) m (by omega) (nI a, (0 : Int32)) rfl (by
          rintro n s hn rfl
          obtain ⟨w1, w2⟩ := wy_lv ha hl0 n (by omega)
          unfold pf_X5_partAt_s1
          dsimp only
          rw [if_neg (nm0 _ (by omega))]
          by_cases hnm : n = m
          · subst hnm
            rw [if_pos (nI_le (Nat.le_refl _) (by omega))]
            exact Or.inl ⟨_, rfl, rfl⟩
          · rw [if_neg (nI_ge (by omega) (by omega)), jx_gk _ w1 (by omega), nI_clamp (by omega)]
            have hJw : J (wy S o kd i k a d0 n) = nI (d0 - n) := by rw [hJ _ w1]; exact (ds_lv (by omega) (by omega)).mpr w2
            rw [hJw, show d0 - n = d0 - (n + 1) + 1 by omega, nI_pred, nI_1]
            obtain ⟨x, ex, hx⟩ := z_nearer h hS J (nI (d0 - (n + 1))) w1 (k := k) (by omega)
            have hJq : ∀ q, q < 8 → (J q = nI (d0 - (n + 1)) ↔ lv (eE S kd k) (sX S o i k) q (d0 - (n + 1)) = true) := fun q hq => by rw [hJ q hq]; exact ds_lv (by omega) (by omega)
            rw [ex, jx_b]
            refine Or.inr ⟨by omega, _, rfl, ?_⟩
            rcases hx with ⟨rfl, hx⟩ | ⟨q, hq, rfl, g1, g2, g3⟩
            · rw [show d0 - n = d0 - (n + 1) + 1 by omega] at w2
              obtain ⟨q, hq, hE, hl⟩ := lv_step w2
              rw [hx q hq ((hJq q hq).mpr hl)] at hE; cases hE
            · have : wy S o kd i k a d0 (n + 1) = q := by
                refine lst_eq hq ?_ (fun j hj => ?_)
                · rw [g2, (hJq q hq).mp g1]; rfl
                · cases hlj : lv (eE S kd k) (sX S o i k) j (d0 - (n + 1)) with
                  | false => rw [Bool.and_false]
                  | true => rw [g3 j hj ((hJq j (by omega)).mpr hlj)]; rfl
              rw [this])
        rw [e, jx_b]
        exact ⟨_, rfl, Or.inr ⟨d0, hd0, hl0, hz, Or.inr ⟨m, hm, rfl, Or.inr ⟨hmd, hr⟩⟩⟩⟩
      · rw [if_neg (nI_ge (by omega) (by omega))]
        exact ⟨_, rfl, Or.inr ⟨d0, hd0, hl0, hz, Or.inr ⟨m, hm, rfl, Or.inl ⟨by omega, rfl⟩⟩⟩⟩
/-- how far, as the reference lays it -/
def FA (S : Int32) (o kd : Nat → Nat → Nat) (i k r : Nat) (far : Nat → Int32) : Prop := ∀ p, p < 8 → ∃ f, far p = nI f ∧ f ≤ 8 ∧ (f ≤ 7 → rch (eE S kd k) (sX S o i k) f p = true) ∧ ∀ d, d ≤ r → d ≤ 7 → rch (eE S kd k) (sX S o i k) d p = true → f ≤ d
theorem z_far3 (h : MO S o kd nr ns nk) {i k r : Nat} (hk : k ≤ 3) (F0 : Nat → Int32) (hF : FA S o kd i k r F0) : ∃ x, jx_iter (pf_X7_layFar_s3 S nk (nI k)) jx_F ((0 : Int32), F0) = some x ∧ FA S o kd i k (r + 1) x := by
  obtain ⟨x, e, x1, x2, x3⟩ := jx_loop0 (step := pf_X7_layFar_s3 S nk (nI k)) (fun n s => s.1 = nI n ∧ (∀ p, p < 8 → ∃ f, s.2 p = nI f ∧ f ≤ 8 ∧ (f ≤ 7 → rch (eE S kd k) (sX S o i k) f p = true)) ∧ (∀ p, p < 8 → ∀ f f0, s.2 p = nI f → f ≤ 8 → F0 p = nI f0 → f0 ≤ 8 → f ≤ f0) ∧ ∀ c, c < n → eE S kd k (c / 8) (c % 8) = true → ∀ f f0, s.2 (c / 8) = nI f → f ≤ 8 → F0 (c % 8) = nI f0 → f0 ≤ 8 → f ≤ f0 + 1) (fun x => (∀ p, p < 8 → ∃ f, x p = nI f ∧ f ≤ 8 ∧ (f ≤ 7 → rch (eE S kd k) (sX S o i k) f p = true)) ∧ (∀ p, p < 8 → ∀ f f0, x p = nI f → f ≤ 8 → F0 p = nI f0 → f0 ≤ 8 → f ≤ f0) ∧ ∀ c, c < 64 → eE S kd k (c / 8) (c % 8) = true → ∀ f f0, x (c / 8) = nI f → f ≤ 8 → F0 (c % 8) = nI f0 → f0 ≤ 8 → f ≤ f0 + 1) 64 (by omega) ((0 : Int32), F0) ⟨rfl, fun p hp => by obtain ⟨f, h1, h2, h3, _⟩ := hF p hp; exact ⟨f, h1, h2, h3⟩, fun p hp f f0 h1 h2 h3 h4 => by
      dsimp only at h1
      rw [h1, nI_eq (by omega) (by omega)] at h3; omega, fun c hc => by omega⟩ (by
    rintro n ⟨z, G⟩ hn ⟨rfl, g1, g2, g3⟩
    dsimp only at g1 g2 g3
    unfold pf_X7_layFar_s3
    dsimp only
    by_cases h64 : 64 ≤ n
    · rw [k64, if_pos (nI_le h64 (by omega))]
      have : n = 64 := by omega
      subst this
      exact Or.inl ⟨_, rfl, g1, g2, g3⟩
    · rw [k64, if_neg (nI_ge (by omega) (by omega)), k8, pk_rem' (by omega), pk_div (by omega) (by omega) (by omega), z_isLet h (by omega) (by omega) (by omega), jx_b, bi0]
      right
      refine ⟨by omega, ?_⟩
      have hp8 : n / 8 < 8 := by omega
      have hq8 : n % 8 < 8 := by omega
      obtain ⟨fp, p1, p2, p3⟩ := g1 _ hp8
      obtain ⟨fq, q1, q2, q3⟩ := g1 _ hq8
      cases hE : eE S kd k (n / 8) (n % 8) with
      | false =>
        refine ⟨(nI (n + 1), G), ?_, rfl, g1, g2, fun c hc hEc => ?_⟩
        · rw [if_neg ff, jx_b, nI_1]
        · by_cases hcn : c = n
          · rw [hcn, hE] at hEc; cases hEc
          · exact g3 c (by omega) hEc
      | true =>
        rw [if_pos rfl, jx_gk _ hq8 (by omega), jx_gk _ hp8 (by omega), nI_clamp (by omega), nI_clamp (by omega)]
        by_cases hle : fp ≤ fq + 1
        · refine ⟨(nI (n + 1), G), ?_, rfl, g1, g2, fun c hc hEc => ?_⟩
          · rw [if_pos (by rw [p1, q1, nI_1]; exact nI_le hle (by omega)), jx_b, nI_1]
          · by_cases hcn : c = n
            · subst hcn
              intro f f0 h1 h2 h3 h4
              dsimp only at h1
              rw [p1, nI_eq (by omega) (by omega)] at h1
              have := g2 _ hq8 fq f0 q1 q2 h3 h4
              omega
            · exact g3 c (by omega) hEc
        · have hpq : n / 8 ≠ n % 8 := by
            intro hh
            rw [hh] at p1
            rw [p1, nI_eq (by omega) (by omega)] at q1
            omega
          refine ⟨(nI (n + 1), upd G (n / 8) (nI (fq + 1))), ?_, rfl, fun p hp => ?_, fun p hp f f0 h1 h2 h3 h4 => ?_, fun c hc hEc f f0 h1 h2 h3 h4 => ?_⟩
          · rw [if_neg (by rw [p1, q1, nI_1]; exact nI_ge (by omega) (by omega)), jx_gk _ hq8 (by omega), jx_gk _ hp8 (by omega), jx_b, q1, nI_1, nI_1]
          · dsimp only
            by_cases hpn : p = n / 8
            · rw [hpn, pk_us]
              exact ⟨fq + 1, rfl, by omega, fun hf => rch_S.mpr (Or.inr ⟨_, hq8, hE, q3 (by omega)⟩)⟩
            · rw [pk_un hpn]; exact g1 p hp
          · dsimp only at h1
            by_cases hpn : p = n / 8
            · rw [hpn, pk_us, nI_eq (by omega) (by omega)] at h1
              rw [hpn] at h3
              have := g2 _ hp8 fp f0 p1 p2 h3 h4
              omega
            · rw [pk_un hpn] at h1; exact g2 p hp f f0 h1 h2 h3 h4
          · dsimp only at h1
            by_cases hpc : c / 8 = n / 8
            · rw [hpc, pk_us, nI_eq (by omega) (by omega)] at h1
              by_cases hcn : c = n
              · rw [hcn] at h3
                have := g2 _ hq8 fq f0 q1 q2 h3 h4
                omega
              · have := g3 c (by omega) hEc fp f0 (by rw [hpc]; exact p1) p2 h3 h4
                omega
            · rw [pk_un hpc] at h1
              exact g3 c (by rcases Nat.lt_or_ge c n with hh | hh; exact hh; exact absurd (show c / 8 = n / 8 by rw [show c = n by omega]) hpc) hEc f f0 h1 h2 h3 h4)
  refine ⟨x, e, fun p hp => ?_⟩
  obtain ⟨f, f1, f2, f3⟩ := x1 p hp
  refine ⟨f, f1, f2, f3, fun d hd hd7 hr => ?_⟩
  obtain ⟨f0, a1, a2, a3, a4⟩ := hF p hp
  rcases Nat.eq_zero_or_pos d with hz | hz
  · subst hz
    have := x2 p hp f f0 f1 f2 a1 a2
    have := a4 0 (by omega) (by omega) hr
    omega
  · obtain ⟨d', rfl⟩ : ∃ d', d = d' + 1 := ⟨d - 1, by omega⟩
    rcases rch_S.mp hr with hh | ⟨q, hq, hE, hh⟩
    · have := x2 p hp f f0 f1 f2 a1 a2
      have := a4 d' (by omega) (by omega) hh
      omega
    · obtain ⟨fq, b1, b2, b3, b4⟩ := hF q hq
      have := b4 d' (by omega) (by omega) hh
      have := x3 (8 * p + q) (by omega) (by rw [show (8 * p + q) / 8 = p by omega, show (8 * p + q) % 8 = q by omega]; exact hE) f fq (by rw [show (8 * p + q) / 8 = p by omega]; exact f1) f2 (by rw [show (8 * p + q) % 8 = q by omega]; exact b1) b2
      omega
theorem z_layFar (h : MO S o kd nr ns nk) {i k : Nat} (hi : i < 12) (hk : k ≤ 3) (nf : Nat → Int32) : ∃ x, pf_X7_layFar nr S ns nk nf (nI i) (nI k) = some x ∧ ∀ p, p < 8 → ∃ f, x p = nI f ∧ f ≤ 8 ∧ (f ≤ 7 → lv (eE S kd k) (sX S o i k) p f = true) ∧ ∀ d, d ≤ 7 → lv (eE S kd k) (sX S o i k) p d = true → f = d := by
  obtain ⟨r1, e1, h1⟩ := jx_loop0 (step := pf_X7_layFar_s1 nr S ns (nI i) (nI k)) (fun n s => s.1 = nI n ∧ ∀ p, p < n → s.2 p = if sX S o i k p = true then nI 0 else nI 8) (fun r => ∀ p, p < 8 → r p = if sX S o i k p = true then nI 0 else nI 8) 8 (by omega) ((0 : Int32), nf) ⟨rfl, fun p hp => by omega⟩ (by
    rintro n ⟨z, J⟩ hn ⟨rfl, hb⟩
    dsimp only at hb
    unfold pf_X7_layFar_s1
    dsimp only
    by_cases h8' : 8 ≤ n
    · rw [k8, if_pos (nI_le h8' (by omega))]
      have : n = 8 := by omega
      subst this
      exact Or.inl ⟨_, rfl, hb⟩
    · rw [k8, if_neg (nI_ge (by omega) (by omega)), z_has S (by omega), jx_b, bi0]
      right
      refine ⟨by omega, (nI (n + 1), upd J n (if sX S o i k n = true then nI 0 else nI 8)), ?_, rfl, fun p hp => ?_⟩
      · have key : ((if bt S n = true then (pf_X7_ownReach nr ns (nI n) (nI i)).bind fun r6 => (if ¬ r6 = nI k then some (nI 8) else some (0 : Int32)) else some (nI 8)) : Option Int32) = some (if sX S o i k n = true then nI 0 else nI 8) := by
          unfold sX
          cases hb : bt S n with
          | false => rw [if_neg ff]; rfl
          | true =>
            have hoo := h.oOK n hb i hi
            rw [if_pos rfl, z_ownReach h hb hi, jx_b]
            by_cases he : o n i = k
            · rw [if_neg (by rw [he]; exact fun hh => hh rfl), decide_eq_true he]; rfl
            · rw [if_pos (by rw [nI_eq (by omega) (by omega)]; exact he), decide_eq_false he]; rfl
        rw [key, jx_b, jx_gk _ (by omega) (by omega), nI_clamp (by omega), nI_1]
      · dsimp only
        by_cases hpn : p = n
        · rw [hpn, pk_us]
        · rw [pk_un hpn]; exact hb p (by omega))
  have hF0 : FA S o kd i k 0 r1 := by
    intro p hp
    cases hs : sX S o i k p with
    | true => exact ⟨0, by rw [h1 p hp, hs]; rfl, by omega, fun _ => hs, fun d _ _ _ => by omega⟩
    | false => exact ⟨8, by rw [h1 p hp, hs]; rfl, by omega, fun hh => by omega, fun d hd _ hr => by
        rw [show d = 0 by omega] at hr
        have hr : sX S o i k p = true := hr
        rw [hs] at hr; cases hr⟩
  obtain ⟨x, e, hx⟩ := jx_loop0 (step := pf_X7_layFar_s2 S nk (nI k)) (fun n s => s.1 = nI n ∧ FA S o kd i k n s.2) (fun x => FA S o kd i k 8 x) 8 (by omega) ((0 : Int32), r1) ⟨rfl, hF0⟩ (by
    rintro n ⟨z, G⟩ hn ⟨rfl, hG⟩
    dsimp only at hG
    unfold pf_X7_layFar_s2
    dsimp only
    by_cases h8' : 8 ≤ n
    · rw [k8, if_pos (nI_le h8' (by omega))]
      have : n = 8 := by omega
      subst this
      exact Or.inl ⟨_, rfl, hG⟩
    · obtain ⟨x, e, hx⟩ := z_far3 h hk G hG
      rw [k8, if_neg (nI_ge (by omega) (by omega)), e, jx_b, nI_1]
      exact Or.inr ⟨by omega, _, rfl, rfl, hx⟩)
  refine ⟨x, by unfold pf_X7_layFar; rw [e1, jx_b, e, jx_b], fun p hp => ?_⟩
  obtain ⟨f, f1, f2, f3, f4⟩ := hx p hp
  have hlv : f ≤ 7 → lv (eE S kd k) (sX S o i k) p f = true := fun hf => by
    obtain ⟨d, hd, hl⟩ := lv_ex (f3 hf)
    have := f4 d (by omega) (by omega) (lv_iff.mp hl).1
    rw [show f = d by omega]; exact hl
  refine ⟨f, f1, f2, hlv, fun d hd hl => ?_⟩
  have := f4 d (by omega) hd (lv_iff.mp hl).1
  exact lv_uniq (hlv (by omega)) hl
end PT
