/-! the state of both, and the calls that change parts and joins -/
def PR (B : Nat) (te : Nat → Nat → Nat) (S : Int32) (tm : Nat → Nat) (kd : Nat → Nat → Nat) (c : Nat) (un : Nat → Int32) (ow : Nat → Int64) (ki : Nat → Int32) (th cm : Nat → Int64) (ch kf : Int32) (bz : Nat → Int64) (ns nk : Nat → Int32) : Prop :=
  S8 S ∧ (∀ p, bt S p = true → tm p < B) ∧ KS S kd ∧ (∀ p, p < 8 → kd p p = 0) ∧ (∀ p, bt S p = true → un p = nI (tm p)) ∧ (∀ p, p < 8 → bt S p = true → rOK (ow p) (te (tm p))) ∧ KX ki kd ∧ (∀ p q, p < 8 → q < 8 → tOK (th (p * 8 + q)) (kd p q)) ∧ come S (fun p => te (tm p)) kd cm ∧ ch = nI c ∧ (kf = -1 ∨ ∃ c', c' ≤ c ∧ kf = nI c') ∧ (kf = ch → KB S (fun p => te (tm p)) kd bz) ∧ (∀ p, bt S p = true → ns p = nI (tm p)) ∧ ∀ p q, bt S p = true → bt S q = true → nk (8 * p + q) = nI (kd p q) - 1
theorem PR.MO {B : Nat} {te : Nat → Nat → Nat} {S : Int32} {tm : Nat → Nat} {kd : Nat → Nat → Nat} {c : Nat} {un : Nat → Int32} {ow : Nat → Int64} {ki : Nat → Int32} {th cm : Nat → Int64} {ch kf : Int32} {bz : Nat → Int64} {ns nk : Nat → Int32} {bs : Int32} {br : Nat → Int64} {nt : Int32} {nr : Nat → Int32} (h : PR B te S tm kd c un ow ki th cm ch kf bz ns nk) (hT : TR B te bs br nt nr) : MO S (fun p => te (tm p)) kd nr ns nk := by
  obtain ⟨h8, h1, h2, h3, h4, h5, h6, h7, h9, h10, h11, h12, h13, h14⟩ := h
  obtain ⟨hB, ho, _, _, _, hM⟩ := hT
  refine ⟨h8, fun p hp => ⟨tm p, by have := h1 p hp; omega, h13 p hp, fun i hi => ⟨hM _ (h1 p hp) i hi, ho _ (h1 p hp) i hi⟩⟩, fun p q hp hq => ⟨h14 p q hp hq, ?_⟩⟩
  exact (h6 p q (S8_lt h8 hp) (S8_lt h8 hq)).2
theorem z_settle {S : Int32} {o kd : Nat → Nat → Nat} {ow th : Nat → Int64} (how : ∀ p, p < 8 → bt S p = true → rOK (ow p) (o p)) (hth : ∀ p q, p < 8 → q < 8 → tOK (th (p * 8 + q)) (kd p q)) (cm : Nat → Int64) (c : Nat) : ∃ r, pf_X3_settle ow th cm S (nI c) = some r ∧ come S o kd r.1 ∧ r.2 = nI (c + 1) := by
  obtain ⟨r, e, hr⟩ := z_spread (S := S) (o := o) (kd := kd) how (fun p q hp hq _ _ => hth p q hp hq) cm
  exact ⟨(r, nI c + 1), by unfold pf_X3_settle; rw [e, jx_b], hr, nI_1 c⟩
theorem kf_off {kf : Int32} {c : Nat} (hc : c < 1000) (h : kf = -1 ∨ ∃ c', c' ≤ c ∧ kf = nI c') : ¬ kf = nI (c + 1) := by
  rcases h with h | ⟨c', h1, h2⟩
  · rw [h]; exact fun hh => nm0 (c + 1) (by omega) hh.symm
  · rw [h2, nI_eq (by omega) (by omega)]; omega
theorem kf_up {kf : Int32} {c : Nat} (h : kf = -1 ∨ ∃ c', c' ≤ c ∧ kf = nI c') : kf = -1 ∨ ∃ c', c' ≤ c + 1 ∧ kf = nI c' := by
  rcases h with h | ⟨c', h1, h2⟩
  · exact Or.inl h
  · exact Or.inr ⟨c', by omega, h2⟩
theorem bt_put {S : Int32} {p j : Nat} (hp : p < 8) : bt (S ||| ((1 : Int32) <<< (nI p &&& 31))) j = (bt S j || decide (j = p)) := by
  rcases Nat.lt_or_ge j 32 with hj | hj
  · rw [b_or, b_one p (by omega) hj]
  · rw [b_big hj, b_big hj, decide_eq_false (by omega)]; rfl
theorem bt_off {S : Int32} {p j : Nat} (hp : p < 8) : bt (S &&& (((1 : Int32) <<< (nI p &&& 31)) ^^^ -1)) j = (bt S j && !decide (j = p)) := by
  rcases Nat.lt_or_ge j 32 with hj | hj
  · rw [b_and, b_xor, b_one p (by omega) hj, b_m1 j hj]
    cases decide (j = p) <;> rfl
  · rw [b_big hj, b_big hj]; rfl
section ST
variable {B : Nat} {te : Nat → Nat → Nat} {S : Int32} {tm : Nat → Nat} {kd : Nat → Nat → Nat} {c : Nat} {un : Nat → Int32} {ow : Nat → Int64} {ki : Nat → Int32} {th cm : Nat → Int64} {ch kf : Int32} {bz : Nat → Int64} {ns nk : Nat → Int32} {bs : Int32} {br : Nat → Int64} {nt : Int32} {nr : Nat → Int32}
/-- a part is put under terms: the class -/
theorem z_put (hc : c < 1000) (h : PR B te S tm kd c un ow ki th cm ch kf bz ns nk) {p t : Nat} (hp : p < 8) (ht : t < B) {w : Int64} (hw : rOK w (te t)) (ns' nk' : Nat → Int32) (hns : ∀ q, (bt S q || decide (q = p)) = true → ns' q = nI (updN tm p t q)) (hnk : ∀ a b, (bt S a || decide (a = p)) = true → (bt S b || decide (b = p)) = true → nk' (8 * a + b) = nI (kd a b) - 1) : ∃ r, pf_X3_put un ow th cm S ch (nI p) (nI t) w = some r ∧ r.2.2.2.1 = (S ||| ((1 : Int32) <<< (nI p &&& 31))) ∧ PR B te (S ||| ((1 : Int32) <<< (nI p &&& 31))) (updN tm p t) kd (c + 1) r.1 r.2.1 ki th r.2.2.1 r.2.2.2.2 kf bz ns' nk' := by
  obtain ⟨h8, h1, h2, h3, h4, h5, h6, h7, h9, h10, h11, h12, h13, h14⟩ := h
  subst h10
  have how : ∀ q, q < 8 → bt (S ||| ((1 : Int32) <<< (nI p &&& 31))) q = true → rOK (vp_updL ow p w q) (te (updN tm p t q)) := by
    intro q hq hb
    rw [bt_put hp, Bool.or_eq_true, decide_eq_true_eq] at hb
    by_cases hqp : q = p
    · rw [hqp, pk_uLs, updN_s]; exact hw
    · rw [pk_uLn hqp, updN_n hqp]; exact h5 q hq (hb.resolve_right hqp)
  obtain ⟨r, e, hr1, hr2⟩ := z_settle (S := S ||| ((1 : Int32) <<< (nI p &&& 31))) (o := fun q => te (updN tm p t q)) (kd := kd) how h7 cm c
  refine ⟨_, by unfold pf_X3_put; rw [jx_gk _ hp (by omega), jx_gk _ hp (by omega), nI_clamp (by omega), e, jx_b], rfl, ?_⟩
  refine ⟨fun i hi => ?_, fun q hb => ?_, fun a b ha hb hk => ?_, h3, fun q hb => ?_, how, h6, h7, hr1, hr2, kf_up h11, fun hh => ?_, fun q hb => ?_, fun a b ha hb => ?_⟩
  · rw [bt_put hp, h8 i hi, decide_eq_false (by omega)]; rfl
  · rw [bt_put hp, Bool.or_eq_true, decide_eq_true_eq] at hb
    by_cases hqp : q = p
    · rw [hqp, updN_s]; exact ht
    · rw [updN_n hqp]; exact h1 q (hb.resolve_right hqp)
  · obtain ⟨s1, s2⟩ := h2 a b ha hb hk
    rw [bt_put hp, bt_put hp, s1, s2]; exact ⟨rfl, rfl⟩
  · rw [bt_put hp, Bool.or_eq_true, decide_eq_true_eq] at hb
    dsimp only
    by_cases hqp : q = p
    · rw [hqp, pk_us, updN_s]
    · rw [pk_un hqp, updN_n hqp]; exact h4 q (hb.resolve_right hqp)
  · dsimp only at hh; rw [hr2] at hh; exact absurd hh (kf_off hc h11)
  · rw [bt_put hp] at hb; exact hns q hb
  · rw [bt_put hp] at ha hb; exact hnk a b ha hb
theorem z_leastFree : ∃ r, pf_X3_leastFree S = some r ∧ ((r = -1 ∧ ∀ p, p < 8 → bt S p = true) ∨ ∃ p, p < 8 ∧ r = nI p ∧ bt S p = false ∧ ∀ q, q < p → bt S q = true) := by
  obtain ⟨r, e, hr⟩ := jx_loop0 (step := pf_X3_leastFree_s1 S) (fun n s => s = nI n ∧ ∀ q, q < n → bt S q = true) (fun r => (r = .inl () ∧ ∀ p, p < 8 → bt S p = true) ∨ ∃ p, p < 8 ∧ r = .inr (nI p) ∧ bt S p = false ∧ ∀ q, q < p → bt S q = true) 8 (by omega) 0 ⟨rfl, fun q hq => absurd hq (Nat.not_lt_zero _)⟩ (by
    rintro n s hn ⟨rfl, hb⟩
    unfold pf_X3_leastFree_s1
    by_cases h8 : 8 ≤ n
    · rw [k8, if_pos (nI_le h8 (by omega))]
      exact Or.inl ⟨_, rfl, Or.inl ⟨rfl, fun p hp => hb p (by omega)⟩⟩
    · rw [k8, if_neg (nI_ge (by omega) (by omega)), z_xhas S (by omega), jx_b, bin, nI_1]
      cases hs : bt S n with
      | true =>
        rw [if_pos rfl]
        refine Or.inr ⟨by omega, _, rfl, rfl, fun q hq => ?_⟩
        by_cases hqn : q = n
        · rw [hqn]; exact hs
        · exact hb q (by omega)
      | false => rw [if_neg ff]; exact Or.inl ⟨_, rfl, Or.inr ⟨n, by omega, rfl, hs, hb⟩⟩)
  unfold pf_X3_leastFree
  rw [e, jx_b]
  rcases hr with ⟨rfl, hr⟩ | ⟨p, h1, rfl, h2, h3⟩
  · exact ⟨_, rfl, Or.inl ⟨rfl, hr⟩⟩
  · exact ⟨_, rfl, Or.inr ⟨p, h1, rfl, h2, h3⟩⟩
theorem z_mfree {p : Nat} (hp : p < 8) (h1 : bt S p = false) (h2 : ∀ q, q < p → bt S q = true) : jx_iter (pf_X7_part_s1 S) jx_F (0 : Int32) = some (nI p) := by
  obtain ⟨r, e, hr⟩ := jx_loop0 (step := pf_X7_part_s1 S) (fun n s => s = nI n) (fun r => r = nI p) p (by omega) 0 rfl (by
    rintro n s hn rfl
    unfold pf_X7_part_s1
    rw [z_has S (by omega), jx_b, bi0, nI_1]
    by_cases hnp : n = p
    · rw [hnp, h1, if_neg ff]; exact Or.inl ⟨_, rfl, rfl⟩
    · rw [h2 n (by omega), if_pos rfl]; exact Or.inr ⟨by omega, _, rfl, rfl⟩)
  rw [e, hr]
theorem z_mclear {p : Nat} (hp : p < 8) (nk : Nat → Int32) : ∃ x, jx_iter (pf_X7_part_s2 (nI p)) jx_F ((0 : Int32), nk) = some x ∧ ∀ a b, a < 8 → b < 8 → x (8 * a + b) = if a = p ∨ b = p then -1 else nk (8 * a + b) := by
  obtain ⟨x, e, hx⟩ := jx_loop0 (step := pf_X7_part_s2 (nI p)) (fun n s => s.1 = nI n ∧ ∀ a b, a < 8 → b < 8 → s.2 (8 * a + b) = if (a = p ∧ b < n) ∨ (b = p ∧ a < n) then -1 else nk (8 * a + b)) (fun x => ∀ a b, a < 8 → b < 8 → x (8 * a + b) = if a = p ∨ b = p then -1 else nk (8 * a + b)) 8 (by omega) ((0 : Int32), nk) ⟨rfl, fun a b _ _ => by rw [if_neg (by omega)]⟩ (by
    rintro n ⟨z, G⟩ hn ⟨rfl, hG⟩
    dsimp only at hG
    unfold pf_X7_part_s2
    dsimp only
    by_cases h8 : 8 ≤ n
    · rw [k8, if_pos (nI_le h8 (by omega))]
      refine Or.inl ⟨_, rfl, fun a b ha hb => ?_⟩
      rw [hG a b ha hb]
      by_cases hh : a = p ∨ b = p
      · rw [if_pos hh, if_pos (by omega)]
      · rw [if_neg hh, if_neg (by omega)]
    · rw [k8, if_neg (nI_ge (by omega) (by omega)), pk_mul, nI_add, jx_gk _ (by omega) (by omega), pk_mul, nI_add, jx_gk _ (by omega) (by omega), nI_clamp (by omega), nI_clamp (by omega), nI_1]
      refine Or.inr ⟨by omega, _, rfl, rfl, fun a b ha hb => ?_⟩
      dsimp only
      by_cases hc1 : 8 * a + b = 8 * n + p
      · rw [hc1, pk_us, if_pos (by omega)]
      · rw [pk_un hc1]
        by_cases hc2 : 8 * a + b = 8 * p + n
        · rw [hc2, pk_us, if_pos (by omega)]
        · rw [pk_un hc2, hG a b ha hb]
          by_cases hh : (a = p ∧ b < n) ∨ (b = p ∧ a < n)
          · rw [if_pos hh, if_pos (by omega)]
          · rw [if_neg hh, if_neg (by omega)])
  exact ⟨x, e, hx⟩
theorem q_part (hc : c < 1000) (hT : TR B te bs br nt nr) (h : PR B te S tm kd c un ow ki th cm ch kf bz ns nk) (x : Int32) : ∃ r r' S' tm' kd' c', pf_X6_part bs br un ow th cm S ch x = some r ∧ pf_X7_part nt S ns nk x = some r' ∧ r.1 = r'.1 ∧ r.2.2.2.2.1 = S' ∧ r'.2.1 = S' ∧ c' ≤ c + 1 ∧ PR B te S' tm' kd' c' r.2.1 r.2.2.1 ki th r.2.2.2.1 r.2.2.2.2.2 kf bz r'.2.2.1 r'.2.2.2 := by
  obtain ⟨hB, ho, rfl, rfl, hX, hM⟩ := id hT
  obtain ⟨h8, h1, h2, h3, h4, h5, h6, h7, h9, h10, h11, h12, h13, h14⟩ := id h
  unfold pf_X6_part pf_X7_part
  obtain ⟨b, e1, e2, hb⟩ := z_isT hB x
  rw [e1, e2, jx_b, jx_b, bin, bin]
  cases b with
  | false =>
    rw [if_neg ff, if_neg ff]
    exact ⟨_, _, S, tm, kd, c, rfl, rfl, rfl, rfl, rfl, Nat.le_succ _, h⟩
  | true =>
    obtain ⟨t, ht, rfl⟩ := hb rfl
    rw [if_pos rfl, if_pos rfl]
    obtain ⟨r, er, hr⟩ := z_leastFree (S := S)
    rw [er, jx_b]
    rcases hr with ⟨rfl, hall⟩ | ⟨p, hp, rfl, hp1, hp2⟩
    · have h255 : S = 255 := b_ext (fun j hj => by
        rw [show (255 : Int32) = nI 255 from rfl, b_nI 255 hj]
        rcases Nat.lt_or_ge j 8 with hj8 | hj8
        · rw [hall j hj8]
          rcases (show j = 0 ∨ j = 1 ∨ j = 2 ∨ j = 3 ∨ j = 4 ∨ j = 5 ∨ j = 6 ∨ j = 7 by omega) with rfl | rfl | rfl | rfl | rfl | rfl | rfl | rfl <;> rfl
        · rw [h8 j hj8, tb_big (by omega) hj8])
      rw [if_neg (show ¬ ¬ (-1 : Int32) = -1 from fun hh => hh rfl), if_neg (show ¬ ¬ S = 255 from fun hh => hh h255)]
      exact ⟨_, _, S, tm, kd, c, rfl, rfl, rfl, rfl, rfl, Nat.le_succ _, h⟩
    · have h255 : ¬ S = 255 := fun hh => by
        rw [hh, show (255 : Int32) = nI 255 from rfl, b_nI 255 (by omega)] at hp1
        rcases (show p = 0 ∨ p = 1 ∨ p = 2 ∨ p = 3 ∨ p = 4 ∨ p = 5 ∨ p = 6 ∨ p = 7 by omega) with rfl | rfl | rfl | rfl | rfl | rfl | rfl | rfl <;> exact absurd hp1 (by decide)
      obtain ⟨x2, ex, hx⟩ := z_mclear hp nk
      have hkp : ∀ a, a < 8 → kd p a = 0 ∧ kd a p = 0 := by
        intro a ha
        constructor
        · apply Classical.byContradiction
          intro hh
          have := (h2 p a hp ha hh).1; rw [hp1] at this; cases this
        · apply Classical.byContradiction
          intro hh
          have := (h2 a p ha hp hh).2; rw [hp1] at this; cases this
      obtain ⟨q, eq, q1, q2⟩ := z_put hc h hp ht (hX t ht) (upd ns p (nI t)) x2 (fun q hq => by
          by_cases hqp : q = p
          · rw [hqp, pk_us, updN_s]
          · rw [pk_un hqp, updN_n hqp]
            rw [Bool.or_eq_true, decide_eq_true_eq] at hq
            exact h13 q (hq.resolve_right hqp)) (fun a b ha hb => by
          rw [Bool.or_eq_true, decide_eq_true_eq] at ha hb
          have ha8 : a < 8 := by rcases ha with ha | ha; exact S8_lt h8 ha; omega
          have hb8 : b < 8 := by rcases hb with hb | hb; exact S8_lt h8 hb; omega
          rw [hx a b ha8 hb8]
          by_cases hh : a = p ∨ b = p
          · rw [if_pos hh]
            have : kd a b = 0 := by
              rcases hh with hh | hh
              · rw [hh]; exact (hkp b hb8).1
              · rw [hh]; exact (hkp a ha8).2
            rw [this]; rfl
          · rw [if_neg hh]
            exact h14 a b (ha.resolve_right (fun h => hh (Or.inl h))) (hb.resolve_right (fun h => hh (Or.inr h))))
      rw [if_pos (show ¬ nI p = -1 from nm0 p (by omega)), if_pos h255, z_mfree hp hp1 hp2, jx_b, jx_gk _ (by omega) (by omega), nI_clamp (by omega), eq, jx_b, jx_gk _ hp (by omega), ex, jx_b, nI_clamp (by omega)]
      exact ⟨_, _, _, _, _, c + 1, rfl, rfl, rfl, q1, rfl, Nat.le_refl _, q2⟩
theorem q_give (hc : c < 1000) (hT : TR B te bs br nt nr) (h : PR B te S tm kd c un ow ki th cm ch kf bz ns nk) (x y : Int32) : ∃ r r' tm' c', pf_X6_give bs br un ow th cm S ch x y = some r ∧ pf_X7_give nt S ns x y = some r' ∧ r.1 = r'.1 ∧ r.2.2.2.2.1 = S ∧ c' ≤ c + 1 ∧ PR B te S tm' kd c' r.2.1 r.2.2.1 ki th r.2.2.2.1 r.2.2.2.2.2 kf bz r'.2 nk := by
  obtain ⟨hB, ho, rfl, rfl, hX, hM⟩ := id hT
  obtain ⟨h8, h1, h2, h3, h4, h5, h6, h7, h9, h10, h11, h12, h13, h14⟩ := id h
  unfold pf_X6_give pf_X7_give
  rcases ix x 8 (by omega) with hx | ⟨p, hp, rfl⟩
  · rw [z_xhas_out S hx, z_mhas_out S hx, jx_b, jx_b, if_pos rfl, if_pos rfl]
    exact ⟨_, _, tm, c, rfl, rfl, rfl, rfl, Nat.le_succ _, h⟩
  · rw [z_xhas S hp, z_mhas S hp, jx_b, jx_b, bi0, bi0]
    cases hb : bt S p with
    | false => rw [if_neg ff, if_neg ff]; exact ⟨_, _, tm, c, rfl, rfl, rfl, rfl, Nat.le_succ _, h⟩
    | true =>
      rw [if_pos rfl, if_pos rfl]
      obtain ⟨b, e1, e2, hbt⟩ := z_isT hB y
      rw [e1, e2, jx_b, jx_b, bin, bin]
      cases b with
      | false => rw [if_neg ff, if_neg ff]; exact ⟨_, _, tm, c, rfl, rfl, rfl, rfl, Nat.le_succ _, h⟩
      | true =>
        obtain ⟨t, ht, rfl⟩ := hbt rfl
        have hSp : S ||| ((1 : Int32) <<< (nI p &&& 31)) = S := b_ext (fun j hj => by
          rw [bt_put hp]
          by_cases hjp : j = p
          · rw [hjp, hb]; rfl
          · rw [decide_eq_false hjp, Bool.or_false])
        have hin : ∀ q, (bt S q || decide (q = p)) = true → bt S q = true := fun q hq => by
          rw [Bool.or_eq_true, decide_eq_true_eq] at hq
          rcases hq with hq | hq
          · exact hq
          · rw [hq]; exact hb
        obtain ⟨q, eq, q1, q2⟩ := z_put hc h hp ht (hX t ht) (upd ns p (nI t)) nk (fun q hq => by
          by_cases hqp : q = p
          · rw [hqp, pk_us, updN_s]
          · rw [pk_un hqp, updN_n hqp]; exact h13 q (hin q hq)) (fun a b ha hb => h14 a b (hin a ha) (hin b hb))
        rw [hSp] at q1 q2
        rw [if_pos rfl, if_pos rfl, jx_gk _ hp (by omega), jx_gk _ (by omega) (by omega), nI_clamp (by omega), nI_clamp (by omega), eq, jx_b, jx_gk _ hp (by omega), jx_gk _ hp (by omega)]
        exact ⟨_, _, _, c + 1, rfl, rfl, by dsimp only; rw [h4 p hb, h13 p hb], q1, Nat.le_refl _, q2⟩
theorem z_letThrough {d : Nat} (hd : d ≤ 4) : ∃ x, pf_X4_letThrough (nI d - 1) = some x ∧ tOK x d := by
  unfold pf_X4_letThrough
  by_cases hz : d = 0
  · rw [if_neg (show ¬ ¬ nI d - 1 = -1 from fun hh => hh ((kd_m1 hd).mpr hz))]
    exact ⟨_, rfl, fun j hj => by rw [l_0, decide_eq_false (show ¬ d ≠ 0 from fun hh => hh hz)]; simp⟩
  · rw [if_pos (show ¬ nI d - 1 = -1 from fun hh => hz ((kd_m1 hd).mp hh)), show nI d - 1 = nI (d - 1) by rw [k1, pk_sub (by omega)], k12, pk_mul]
    refine ⟨_, rfl, fun j hj => ?_⟩
    rw [l_and, l_36 hj, l_shl _ (by omega) _ hj, l_m1 _ (by omega), decide_eq_true hz, Bool.and_true, Bool.true_and]
    congr 1
    by_cases hh : d ≤ j / 12 + 1
    · rw [decide_eq_true hh, decide_eq_true (by omega)]
    · rw [decide_eq_false hh, decide_eq_false (by omega)]
def kset (kd : Nat → Nat → Nat) (p q d : Nat) : Nat → Nat → Nat := fun a b => if a = p ∧ b = q then d else kd a b
theorem z_setJoin (hX : KX ki kd) (hth : ∀ p q, p < 8 → q < 8 → tOK (th (p * 8 + q)) (kd p q)) {p q d : Nat} (hp : p < 8) (hq : q < 8) (hd : d ≤ 4) : ∃ r, pf_X3_setJoin ki th (nI p) (nI q) (nI d - 1) = some r ∧ KX r.1 (kset kd p q d) ∧ ∀ a b, a < 8 → b < 8 → tOK (r.2 (a * 8 + b)) (kset kd p q d a b) := by
  obtain ⟨x, ex, hx⟩ := z_letThrough hd
  refine ⟨_, by unfold pf_X3_setJoin; rw [k8, pk_mul, nI_add, jx_gk _ (by omega) (by omega), ex, jx_b, jx_gk _ (by omega) (by omega), nI_clamp (by omega)], fun a b ha hb => ?_, fun a b ha hb => ?_⟩
  · dsimp only [kset]
    by_cases hh : a = p ∧ b = q
    · rw [if_pos hh, hh.1, hh.2, pk_us]; exact ⟨rfl, hd⟩
    · rw [if_neg hh, pk_un (by omega)]; exact hX a b ha hb
  · dsimp only [kset]
    by_cases hh : a = p ∧ b = q
    · rw [if_pos hh, hh.1, hh.2, pk_uLs]; exact hx
    · rw [if_neg hh, pk_uLn (by omega)]; exact hth a b ha hb
end ST
