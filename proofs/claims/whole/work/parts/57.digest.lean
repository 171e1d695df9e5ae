/-! digest: alike -/
def mx (h : Int64) (v : Int32) : Int64 := 31 * h + v.toInt64
theorem z_mix (h : Int64) (v : Int32) : pf_X6_mix h v.toInt64 = some (mx h v) := rfl
theorem z_mmix (h : Int64) (v : Int32) : pf_X7_mix h v.toInt64 = some (mx h v) := rfl
theorem fold_add {α : Type} (f : Nat → α → α) (n m : Nat) (a : α) : fold f (n + m) a = fold (fun i => f (n + i)) m (fold f n a) := by
  induction m with
  | zero => rfl
  | succ m ih => show f (n + m) (fold f (n + m) a) = f (n + m) (fold _ m _); rw [ih]
theorem fold_12 {α : Type} (f : Nat → α → α) (B : Nat) (a : α) : fold f (12 * B) a = fold (fun t a => fold (fun i => f (12 * t + i)) 12 a) B a := by
  induction B with
  | zero => rfl
  | succ B ih => rw [show 12 * (B + 1) = 12 * B + 12 by omega, fold_add, ih]; rfl
theorem getD_some {α : Type} {x : Option α} {d r : α} (h : x = some r) : x = some (x.getD d) ∧ x.getD d = r := by rw [h]; exact ⟨rfl, rfl⟩
section DG
variable {B : Nat} {te : Nat → Nat → Nat} {S : Int32} {tm : Nat → Nat} {kd : Nat → Nat → Nat} {c : Nat} {un : Nat → Int32} {ow : Nat → Int64} {ki : Nat → Int32} {th cm : Nat → Int64} {ch kf : Int32} {bz : Nat → Int64} {ns nk : Nat → Int32} {bs : Int32} {br : Nat → Int64} {nt : Int32} {nr : Nat → Int32}
theorem v_reach (hT : TR B te bs br nt nr) {t i : Nat} (ht : t < B) (hi : i < 12) : pf_X6_reach bs br (nI t) (nI i) = some (nI (te t i)) := by
  obtain ⟨hB, ho, rfl, rfl, hX, hM⟩ := hT
  unfold pf_X6_reach pf_X0_has
  rw [if_neg (nI_pos (by omega)), if_neg (nI_ge ht (by omega)), jx_b, if_pos n1n0, (item_in hi).1, jx_b, if_neg n1n0, jx_gk _ (by omega) (by omega), nI_clamp (by omega), z_greatest _ hi, jx_b, gr_own (hX t ht) hi (ho t ht i hi)]
theorem z_withTerms (hT : TR B te bs br nt nr) (h : Int64) : pf_X6_withTerms bs br h = some (fold (fun k a => mx a (nr k)) (12 * B) h) := by
  obtain ⟨hB, ho, rfl, rfl, hX, hM⟩ := id hT
  unfold pf_X6_withTerms
  rw [jx_forA (step := pf_X6_withTerms_s1 (nI B) br) (N := B) (fun t a => fold (fun i a => mx a (nr (12 * t + i))) 12 a) (by omega) (fun t a ht => ?_) (fun a => ?_), jx_b, fold_12]
  · unfold pf_X6_withTerms_s1
    dsimp only
    rw [if_neg (nI_ge ht (by omega)), jx_forA (step := pf_X6_withTerms_s2 (nI B) br (a, nI t)) (N := 12) (fun i a => mx a (nr (12 * t + i))) (by omega) (fun i a' hi => ?_) (fun a' => ?_), jx_b, nI_1]
    · unfold pf_X6_withTerms_s2
      dsimp only
      rw [k12, if_neg (nI_ge (by omega) (by omega)), v_reach hT ht hi, jx_b, z_mix, jx_b, nI_1, hM t ht i hi]
    · unfold pf_X6_withTerms_s2
      dsimp only
      rw [k12, if_pos (nI_le (Nat.le_refl _) (by omega))]
  · unfold pf_X6_withTerms_s1
    dsimp only
    rw [if_pos (nI_le (Nat.le_refl _) (by omega))]
theorem z_mterms (hT : TR B te bs br nt nr) (h : Int64) : jx_iter (pf_X7_digest_s1 nt nr) jx_F ((0 : Int32), h) = some (fold (fun k a => mx a (nr k)) (12 * B) h) := by
  obtain ⟨hB, ho, rfl, rfl, hX, hM⟩ := hT
  rw [jx_forB (step := pf_X7_digest_s1 (nI B) nr) (N := 12 * B) (fun k a => mx a (nr k)) (by omega) (fun k a hk => ?_) (fun a => ?_)]
  · unfold pf_X7_digest_s1
    dsimp only
    rw [k12, pk_mul, if_neg (nI_ge hk (by omega)), jx_gk _ (by omega) (by omega), nI_clamp (by omega), z_mmix, jx_b, nI_1]
  · unfold pf_X7_digest_s1
    dsimp only
    rw [k12, pk_mul, if_pos (nI_le (Nat.le_refl _) (by omega))]
/-- one part: alike -/
theorem q_withPart (hT : TR B te bs br nt nr) (h : PR B te S tm kd c un ow ki th cm ch kf bz ns nk) {p : Nat} (hp : p < 8) (hb : bt S p = true) (a : Int64) : ∃ r, pf_X6_withPart un ki cm S a (nI p) = some r ∧ pf_X7_mixPart nr S ns nk a (nI p) = some r := by
  have hM := h.MO hT
  obtain ⟨h8, h1, h2, h3, h4, h5, h6, h7, h9, h10, h11, h12, h13, h14⟩ := id h
  have hof : ∀ w, ∃ r, w < 7 → pf_X6_of un ki cm S (nI p) (nI w) = some r ∧ pf_X7_partNow nr S ns nk (nI p) (nI w) = some r := by
    intro w
    by_cases hw : w < 7
    · obtain ⟨r, e1, e2⟩ := q_of (un := un) hM h6 h2 h9 (fun q hq => by rw [h4 q hq, h13 q hq]) (nI p) (nI w)
      refine ⟨r, fun _ => ⟨e1, ?_⟩⟩
      unfold pf_X7_of at e2
      rw [z_mhas S hp, hb, jx_b, bin, if_pos rfl, show (6 : Int32) = nI 6 from rfl, within_nI (by omega) (by omega), decide_eq_true (by omega), jx_b, bi0, if_pos rfl] at e2
      obtain ⟨r', e3, e4⟩ := jx_bs e2
      rw [e3]; exact e4
    · exact ⟨0, fun hh => absurd hh hw⟩
  have hhe : ∀ i, ∃ r, i < 12 → pf_X6_held cm S (nI p) (nI i) = some r ∧ pf_X7_heldNow nr S ns nk (nI p) (nI i) = some r := by
    intro i
    by_cases hi : i < 12
    · obtain ⟨r, e1, e2⟩ := q_held hM h9 (nI p) (nI i)
      refine ⟨r, fun _ => ⟨e1, ?_⟩⟩
      unfold pf_X7_held at e2
      rw [z_mhas S hp, hb, jx_b, bin, if_pos rfl, (item_in hi).2, jx_b, if_neg n1n0] at e2
      obtain ⟨r', e3, e4⟩ := jx_bs e2
      rw [e3]; exact e4
    · exact ⟨0, fun hh => absurd hh hi⟩
  obtain ⟨ofv, hofv⟩ := Classical.skolem.mp hof
  obtain ⟨hev, hhev⟩ := Classical.skolem.mp hhe
  have l1 : ∀ x : Int64, jx_iter (pf_X6_withPart_s1 un ki cm S (nI p)) jx_F (x, (0 : Int32)) = some (fold (fun w a => mx a (ofv w)) 7 x) := fun x => jx_forA (step := pf_X6_withPart_s1 un ki cm S (nI p)) (N := 7) (fun w a => mx a (ofv w)) (by omega) (fun w a' hw => by
      unfold pf_X6_withPart_s1
      dsimp only
      rw [k6, if_neg (nI_nlt (by omega) (by omega)), (hofv w hw).1, jx_b, z_mix, jx_b, nI_1]) (fun a' => by
      unfold pf_X6_withPart_s1
      dsimp only
      rw [k6, if_pos (nI_lt (by omega) (by omega))]) x
  have m1 : ∀ x : Int64, jx_iter (pf_X7_mixPart_s1 nr S ns nk (nI p)) jx_F ((0 : Int32), x) = some (fold (fun w a => mx a (ofv w)) 7 x) := fun x => jx_forB (step := pf_X7_mixPart_s1 nr S ns nk (nI p)) (N := 7) (fun w a => mx a (ofv w)) (by omega) (fun w a' hw => by
      unfold pf_X7_mixPart_s1
      dsimp only
      rw [k7, if_neg (nI_ge (by omega) (by omega)), (hofv w hw).2, jx_b, z_mmix, jx_b, nI_1]) (fun a' => by
      unfold pf_X7_mixPart_s1
      dsimp only
      rw [k7, if_pos (nI_le (Nat.le_refl _) (by omega))]) x
  have l2 : ∀ x : Int64, jx_iter (pf_X6_withPart_s2 cm S (nI p)) jx_F (x, (0 : Int32)) = some (fold (fun w a => mx a (hev w)) 12 x) := fun x => jx_forA (step := pf_X6_withPart_s2 cm S (nI p)) (N := 12) (fun w a => mx a (hev w)) (by omega) (fun w a' hw => by
      unfold pf_X6_withPart_s2
      dsimp only
      rw [k12, if_neg (nI_ge (by omega) (by omega)), (hhev w hw).1, jx_b, z_mix, jx_b, nI_1]) (fun a' => by
      unfold pf_X6_withPart_s2
      dsimp only
      rw [k12, if_pos (nI_le (Nat.le_refl _) (by omega))]) x
  have m2 : ∀ x : Int64, jx_iter (pf_X7_mixPart_s2 nr S ns nk (nI p)) jx_F ((0 : Int32), x) = some (fold (fun w a => mx a (hev w)) 12 x) := fun x => jx_forB (step := pf_X7_mixPart_s2 nr S ns nk (nI p)) (N := 12) (fun w a => mx a (hev w)) (by omega) (fun w a' hw => by
      unfold pf_X7_mixPart_s2
      dsimp only
      rw [k12, if_neg (nI_ge (by omega) (by omega)), (hhev w hw).2, jx_b, z_mmix, jx_b, nI_1]) (fun a' => by
      unfold pf_X7_mixPart_s2
      dsimp only
      rw [k12, if_pos (nI_le (Nat.le_refl _) (by omega))]) x
  have l3 : ∀ x : Int64, jx_iter (pf_X6_withPart_s3 ki S (nI p)) jx_F (x, (0 : Int32)) = some (fold (fun q a => if bt S q = true then mx a (nI (kd p q) - 1) else a) 8 x) := fun x => jx_forA (step := pf_X6_withPart_s3 ki S (nI p)) (N := 8) (fun q a => if bt S q = true then mx a (nI (kd p q) - 1) else a) (by omega) (fun q a' hq => by
      unfold pf_X6_withPart_s3
      dsimp only
      rw [k8, if_neg (nI_ge (by omega) (by omega)), z_xhas S hq, jx_b, bi0, nI_1]
      cases hbq : bt S q with
      | false => rw [if_neg ff, jx_b, if_neg ff]
      | true =>
        unfold pf_X6_kind
        rw [if_pos rfl, z_xhas S hp, hb, jx_b, bi0, if_pos rfl, z_xhas S hq, hbq, jx_b, bi0, if_pos rfl, z_kindOf h6 hp hq, jx_b, jx_b, z_mix, jx_b, jx_b, if_pos rfl]) (fun a' => by
      unfold pf_X6_withPart_s3
      dsimp only
      rw [k8, if_pos (nI_le (Nat.le_refl _) (by omega))]) x
  have m3 : ∀ x : Int64, jx_iter (pf_X7_mixPart_s3 S nk (nI p)) jx_F ((0 : Int32), x) = some (fold (fun q a => if bt S q = true then mx a (nI (kd p q) - 1) else a) 8 x) := fun x => jx_forB (step := pf_X7_mixPart_s3 S nk (nI p)) (N := 8) (fun q a => if bt S q = true then mx a (nI (kd p q) - 1) else a) (by omega) (fun q a' hq => by
      unfold pf_X7_mixPart_s3
      dsimp only
      rw [k8, if_neg (nI_ge (by omega) (by omega)), z_has S (by omega), jx_b, bi0, nI_1]
      cases hbq : bt S q with
      | false => rw [if_neg ff, jx_b, if_neg ff]
      | true => rw [if_pos rfl, pk_mul, nI_add, jx_gk _ (by omega) (by omega), nI_clamp (by omega), h14 p q hb hbq, z_mmix, jx_b, jx_b, if_pos rfl]) (fun a' => by
      unfold pf_X7_mixPart_s3
      dsimp only
      rw [k8, if_pos (nI_le (Nat.le_refl _) (by omega))]) x
  refine ⟨_, by unfold pf_X6_withPart; rw [z_mix, jx_b, l1, jx_b, l2, jx_b, l3, jx_b], ?_⟩
  unfold pf_X7_mixPart
  rw [z_mmix, jx_b, m1, jx_b, m2, jx_b, m3, jx_b]
theorem q_dparts (hT : TR B te bs br nt nr) (h : PR B te S tm kd c un ow ki th cm ch kf bz ns nk) (a : Int64) : ∃ r, jx_iter (pf_X6_digest_s1 un ki cm S) jx_F (a, (0 : Int32)) = some r ∧ jx_iter (pf_X7_digest_s2 nr S ns nk) jx_F ((0 : Int32), a) = some r := by
  have hpv : ∀ x : Nat × Int64, ∃ r, x.1 < 8 → bt S x.1 = true → pf_X6_withPart un ki cm S x.2 (nI x.1) = some r ∧ pf_X7_mixPart nr S ns nk x.2 (nI x.1) = some r := by
    intro x
    by_cases hx : x.1 < 8 ∧ bt S x.1 = true
    · obtain ⟨r, e1, e2⟩ := q_withPart hT h hx.1 hx.2 x.2
      exact ⟨r, fun _ _ => ⟨e1, e2⟩⟩
    · exact ⟨0, fun h1 h2 => absurd ⟨h1, h2⟩ hx⟩
  obtain ⟨pv, hpv⟩ := Classical.skolem.mp hpv
  refine ⟨fold (fun p a => if bt S p = true then pv (p, a) else a) 8 a, jx_forA (step := pf_X6_digest_s1 un ki cm S) (N := 8) _ (by omega) (fun p a' hp => ?_) (fun a' => ?_) a, jx_forB (step := pf_X7_digest_s2 nr S ns nk) (N := 8) _ (by omega) (fun p a' hp => ?_) (fun a' => ?_) a⟩
  · unfold pf_X6_digest_s1
    dsimp only
    rw [k8, if_neg (nI_ge (by omega) (by omega)), z_xhas S hp, jx_b, bi0, nI_1]
    cases hb : bt S p with
    | false => rw [if_neg ff, jx_b, if_neg ff]
    | true => rw [if_pos rfl, (hpv (p, a') hp hb).1, jx_b, jx_b, if_pos rfl]
  · unfold pf_X6_digest_s1
    dsimp only
    rw [k8, if_pos (nI_le (Nat.le_refl _) (by omega))]
  · unfold pf_X7_digest_s2
    dsimp only
    rw [k8, if_neg (nI_ge (by omega) (by omega)), z_has S (by omega), jx_b, bi0, nI_1]
    cases hb : bt S p with
    | false => rw [if_neg ff, jx_b, if_neg ff]
    | true => rw [if_pos rfl, (hpv (p, a') hp hb).2, jx_b, jx_b, if_pos rfl]
  · unfold pf_X7_digest_s2
    dsimp only
    rw [k8, if_pos (nI_le (Nat.le_refl _) (by omega))]
/-- the clashes with their causes, in order -/
def gfo (P : Nat → Bool) (cv : Nat → Int32) (h0 : Int64) (f : Nat) : Int64 := fold (fun f h => if P f = true then mx (mx h (nI f)) (cv f) else h) f h0
theorem gfo_S {P : Nat → Bool} {cv : Nat → Int32} {h0 : Int64} {f : Nat} : gfo P cv h0 (f + 1) = if P f = true then mx (mx (gfo P cv h0 f) (nI f)) (cv f) else gfo P cv h0 f := rfl
theorem gfo_same {P : Nat → Bool} {cv : Nat → Int32} {h0 : Int64} {f g : Nat} (h : f ≤ g) (hc : cnt P f = cnt P g) : gfo P cv h0 f = gfo P cv h0 g := by
  induction h with
  | refl => rfl
  | step hle ih =>
    rename_i m
    have h1 := cnt_up P hle
    rw [cnt_S] at hc
    cases hp : P m with
    | true => rw [hp, if_pos rfl] at hc; have h1 : cnt P f ≤ cnt P m := h1; omega
    | false =>
      rw [hp, if_neg ff] at hc
      rw [gfo_S, hp, if_neg ff]
      exact ih hc
theorem q_dclash (hT : TR B te bs br nt nr) (h : PR B te S tm kd c un ow ki th cm ch kf bz ns nk) (rw' : Nat → Int64) (nc : Int32) (ng : Nat → Int32) (a : Int64) : ∃ r q k, pf_X6_withClashes ow th cm S ch bz rw' kf a = some r ∧ pf_X7_layClashes nr S ns nk nc ng = some q ∧ jx_iter (pf_X7_digest_s3 nr S ns nk q) jx_F ((0 : Int32), a) = some k ∧ r.1 = k ∧ (r.2.2.2 = ch ∨ r.2.2.2 = kf) ∧ (r.2.2.2 = ch → KB S (fun p => te (tm p)) kd r.2.1) := by
  have hM := h.MO hT
  obtain ⟨h8, h1, h2, h3, h4, h5, h6, h7, h9, h10, h11, h12, h13, h14⟩ := id h
  obtain ⟨w, ew, hw⟩ := z_now hM h9
  obtain ⟨q, eq, q1, q2⟩ := z_layClashes hM nc ng
  have hc48 := cnt_le (pf_P S (fun p => te (tm p)) kd) 48
  have hth : ∀ p q, p < 8 → q < 8 → bt S p = true → bt S q = true → tOK (th (p * 8 + q)) (kd p q) := fun p q hp hq _ _ => h7 p q hp hq
  have hcv : ∀ f, ∃ r, f < 48 → pf_X7_causeNow nr S ns nk (nI (f / 6)) (nI (f % 6)) = some r ∧ ∀ (kf2 : Int32) (bz2 rw2 : Nat → Int64), (kf2 = ch → KB S (fun p => te (tm p)) kd bz2) → ∃ r', pf_X1_fewestFor ow th cm S ch bz2 rw2 kf2 (nI f) = some r' ∧ r'.1 = r ∧ (r'.2.2.2 = ch ∨ r'.2.2.2 = kf2) ∧ (r'.2.2.2 = ch → KB S (fun p => te (tm p)) kd r'.2.1) := by
    intro f
    by_cases hf : f < 48
    · obtain ⟨_, r0, _, er0, _⟩ := q_fewest hM h9 h5 hth ch kf bz rw' h12 (p := f / 6) (a := f % 6) (by omega) (by omega)
      refine ⟨r0, fun _ => ⟨er0, fun kf2 bz2 rw2 hk2 => ?_⟩⟩
      obtain ⟨r1, r2, e1, e2, e3, e4, e5⟩ := q_fewest hM h9 h5 hth ch kf2 bz2 rw2 hk2 (p := f / 6) (a := f % 6) (by omega) (by omega)
      rw [er0] at e2
      rw [show 6 * (f / 6) + f % 6 = f by omega] at e1
      exact ⟨r1, e1, by rw [e3]; exact (Option.some.inj e2).symm, e4, e5⟩
    · exact ⟨0, fun hh => absurd hh hf⟩
  obtain ⟨cv, hcv⟩ := Classical.skolem.mp hcv
  obtain ⟨r, e, r1, r2, r3⟩ := jx_loop0 (step := pf_X6_withClashes_s1 ow th cm S ch w) (fun n s => s.2.1 = nI n ∧ s.1 = gfo (pf_P S (fun p => te (tm p)) kd) cv a n ∧ (s.2.2.2.2 = ch ∨ s.2.2.2.2 = kf) ∧ (s.2.2.2.2 = ch → KB S (fun p => te (tm p)) kd s.2.2.1)) (fun r => r.1 = gfo (pf_P S (fun p => te (tm p)) kd) cv a 48 ∧ (r.2.2.2 = ch ∨ r.2.2.2 = kf) ∧ (r.2.2.2 = ch → KB S (fun p => te (tm p)) kd r.2.1)) 48 (by omega) (a, (0 : Int32), bz, rw', kf) ⟨rfl, rfl, Or.inr rfl, h12⟩ (by
    rintro n ⟨x, y, b, rr, k⟩ hn ⟨rfl, rfl, g1, g2⟩
    dsimp only at g1 g2
    unfold pf_X6_withClashes_s1
    dsimp only
    by_cases h48 : 48 ≤ n
    · rw [k48, if_pos (nI_le h48 (by omega))]
      have : n = 48 := by omega
      subst this
      exact Or.inl ⟨_, rfl, rfl, g1, g2⟩
    · rw [k48, if_neg (nI_ge (by omega) (by omega)), z_isSet w (by omega), jx_b, bi0, hw n (by omega), decide_eq_true (by omega), Bool.true_and]
      right
      refine ⟨by omega, ?_⟩
      cases hp : pf_P S (fun p => te (tm p)) kd n with
      | false =>
        rw [if_neg ff, jx_b, nI_1]
        exact ⟨_, rfl, rfl, by rw [gfo_S, hp, if_neg ff], g1, g2⟩
      | true =>
        obtain ⟨r', e1, e2, e3, e4⟩ := (hcv n (by omega)).2 k b rr g2
        rw [if_pos rfl, z_mix, jx_b, e1, jx_b, z_mix, jx_b, jx_b, nI_1]
        refine ⟨_, rfl, rfl, by dsimp only; rw [gfo_S, hp, if_pos rfl, e2], ?_, e4⟩
        rcases e3 with e3 | e3
        · exact Or.inl e3
        · dsimp only; rw [e3]; exact g1)
  obtain ⟨k, ek, hk⟩ := jx_loop0 (step := pf_X7_digest_s3 nr S ns nk q) (fun n s => s.1 = nI n ∧ ∀ f, f ≤ 48 → cnt (pf_P S (fun p => te (tm p)) kd) f = n → s.2 = gfo (pf_P S (fun p => te (tm p)) kd) cv a f) (fun k => k = gfo (pf_P S (fun p => te (tm p)) kd) cv a 48) (cnt (pf_P S (fun p => te (tm p)) kd) 48) (by omega) ((0 : Int32), a) ⟨rfl, fun f hf hc => gfo_same (f := 0) (Nat.zero_le _) hc.symm⟩ (by
    rintro n ⟨x, y⟩ hn ⟨rfl, hb⟩
    dsimp only at hb
    unfold pf_X7_digest_s3
    dsimp only
    rw [q1]
    by_cases hn2 : n = cnt (pf_P S (fun p => te (tm p)) kd) 48
    · rw [if_pos (nI_le (by omega) (by omega))]
      exact Or.inl ⟨_, rfl, hb 48 (Nat.le_refl _) hn2.symm⟩
    · obtain ⟨f, f1, f2, f3⟩ := cnt_at (pf_P S (fun p => te (tm p)) kd) (show n < cnt (pf_P S (fun p => te (tm p)) kd) 48 by omega)
      have hq := q2 f f1 f2
      rw [f3] at hq
      rw [if_neg (nI_ge (by omega) (by omega)), jx_gk _ (by omega) (by omega), nI_clamp (by omega), hq, z_mmix, jx_b, jx_gk _ (by omega) (by omega), jx_gk _ (by omega) (by omega), k6, pk_rem (by omega) (by omega) (by omega), pk_div (by omega) (by omega) (by omega), (hcv f f1).1, jx_b, z_mmix, jx_b, nI_1]
      refine Or.inr ⟨by omega, _, rfl, rfl, fun g hg hc => ?_⟩
      have hfg : f + 1 ≤ g := by
        rcases Nat.lt_or_ge f g with hh | hh
        · exact hh
        · have := cnt_up (pf_P S (fun p => te (tm p)) kd) hh; omega
      have hcf : cnt (pf_P S (fun p => te (tm p)) kd) (f + 1) = n + 1 := by rw [cnt_S, f2, if_pos rfl, f3]
      dsimp only
      rw [← gfo_same hfg (by rw [hcf, hc]), gfo_S, f2, if_pos rfl, hb f (by omega) f3])
  exact ⟨(r.1, r.2.1, r.2.2.1, r.2.2.2), q, k, by unfold pf_X6_withClashes; rw [ew, jx_b, e, jx_b], eq, ek, r1.trans hk.symm, r2, r3⟩
/-- digest answers alike -/
theorem q_digest {cd np : Nat → Int32} {n : Nat} (hn : n ≤ 24) (hpg : ∀ j, j < n → np j = cd j) (hT : TR B te bs br nt nr) (h : PR B te S tm kd c un ow ki th cm ch kf bz ns nk) (tl : Int32) (rw' : Nat → Int64) (nc : Int32) (ng : Nat → Int32) (nx : Int64) : ∃ r r', pf_X6_digest (nI n) cd bs br un ow ki th cm S tl ch bz rw' kf = some r ∧ pf_X7_digest (nI n) np nt nr S ns nk tl nc ng nx = some r' ∧ r.1 = r'.1 ∧ (r.2.2.2 = ch ∨ r.2.2.2 = kf) ∧ (r.2.2.2 = ch → KB S (fun p => te (tm p)) kd r.2.1) := by
  have hM := h.MO hT
  obtain ⟨h8, h1, h2, h3, h4, h5, h6, h7, h9, h10, h11, h12, h13, h14⟩ := id h
  obtain ⟨hB, ho, hbs, hnt, hX, hMr⟩ := id hT
  have hth : ∀ p q, p < 8 → q < 8 → bt S p = true → bt S q = true → tOK (th (p * 8 + q)) (kd p q) := fun p q hp hq _ _ => h7 p q hp hq
  obtain ⟨d, d1, d2⟩ := q_dparts hT h (fold (fun k a => mx a (nr k)) (12 * B) 1697)
  obtain ⟨r, q, k, c1, c2, c3, c4, c5, c6⟩ := q_dclash hT h rw' nc ng d
  obtain ⟨u, u', v1, v2, v3, v4, v5, v6⟩ := q_cure hM h9 h5 hth ch r.2.2.2 r.2.1 r.2.2.1 c6
  have hcv : ∀ w, ∃ x, pf_X6_count (nI n) bs ki cm S tl (nI w) = some x ∧ ∀ (nc2 : Int32) (ng2 : Nat → Int32), ∃ y, pf_X7_howMany (nI n) nt nr S ns nk tl nc2 ng2 (nI w) = some y ∧ y.1 = x := by
    intro w
    obtain ⟨x, _, ex, _, _⟩ := q_count hM h6 h2 h9 (nI n) bs tl nc ng (nI w)
    refine ⟨x, ex, fun nc2 ng2 => ?_⟩
    obtain ⟨x2, y2, ex2, ey2, e3⟩ := q_count hM h6 h2 h9 (nI n) bs tl nc2 ng2 (nI w)
    rw [ex] at ex2
    unfold pf_X7_count at ey2
    obtain ⟨y, e4, e5⟩ := jx_bs ey2
    rw [hnt, ← hbs]
    refine ⟨y, e4, ?_⟩
    rw [← Option.some.inj e5] at e3
    rw [Option.some.inj ex2, e3]
  obtain ⟨cv, hcv⟩ := Classical.skolem.mp hcv
  have p1 : ∀ x : Int64, jx_iter (pf_X6_digest_s2 (nI n) cd) jx_F (x, (0 : Int32)) = some (fold (fun k a => mx a (cd k)) n x) := fun x => jx_forA (step := pf_X6_digest_s2 (nI n) cd) (N := n) (fun k a => mx a (cd k)) (by omega) (fun w a' hw => by
      unfold pf_X6_digest_s2
      dsimp only
      rw [if_neg (nI_ge hw (by omega)), jx_gk _ (by omega) (by omega), nI_clamp (by omega), z_mix, jx_b, nI_1]) (fun a' => by
      unfold pf_X6_digest_s2
      dsimp only
      rw [if_pos (nI_le (Nat.le_refl _) (by omega))]) x
  have p2 : ∀ x : Int64, jx_iter (pf_X7_digest_s4 (nI n) np) jx_F ((0 : Int32), x) = some (fold (fun k a => mx a (cd k)) n x) := fun x => jx_forB (step := pf_X7_digest_s4 (nI n) np) (N := n) (fun k a => mx a (cd k)) (by omega) (fun w a' hw => by
      unfold pf_X7_digest_s4
      dsimp only
      rw [if_neg (nI_ge hw (by omega)), jx_gk _ (by omega) (by omega), nI_clamp (by omega), hpg w hw, z_mmix, jx_b, nI_1]) (fun a' => by
      unfold pf_X7_digest_s4
      dsimp only
      rw [if_pos (nI_le (Nat.le_refl _) (by omega))]) x
  have p3 : ∀ x : Int64, jx_iter (pf_X6_digest_s3 (nI n) bs ki cm S tl) jx_F (x, (0 : Int32)) = some (fold (fun k a => mx a (cv k)) 8 x) := fun x => jx_forA (step := pf_X6_digest_s3 (nI n) bs ki cm S tl) (N := 8) (fun k a => mx a (cv k)) (by omega) (fun w a' hw => by
      unfold pf_X6_digest_s3
      dsimp only
      rw [k7, if_neg (nI_nlt (by omega) (by omega)), (hcv w).1, jx_b, z_mix, jx_b, nI_1]) (fun a' => by
      unfold pf_X6_digest_s3
      dsimp only
      rw [k7, if_pos (nI_lt (by omega) (by omega))]) x
  have p4 : ∀ (nc2 : Int32) (ng2 : Nat → Int32) (x : Int64), ∃ y, jx_iter (pf_X7_digest_s5 (nI n) nt nr S ns nk tl) jx_F ((0 : Int32), nc2, ng2, x) = some y ∧ y.2.2 = fold (fun k a => mx a (cv k)) 8 x := by
    intro nc2 ng2 x
    refine jx_loop0 (step := pf_X7_digest_s5 (nI n) nt nr S ns nk tl) (fun m s => s.1 = nI m ∧ s.2.2.2 = fold (fun k a => mx a (cv k)) m x) (fun y => y.2.2 = fold (fun k a => mx a (cv k)) 8 x) 8 (by omega) ((0 : Int32), nc2, ng2, x) ⟨rfl, rfl⟩ ?_
    rintro m ⟨a1, a2, a3, a4⟩ hm ⟨rfl, rfl⟩
    unfold pf_X7_digest_s5
    dsimp only
    by_cases h8 : 8 ≤ m
    · rw [k8, if_pos (nI_le h8 (by omega))]
      have : m = 8 := by omega
      subst this
      exact Or.inl ⟨_, rfl, rfl⟩
    · obtain ⟨y, e1, e2⟩ := (hcv m).2 a2 a3
      rw [k8, if_neg (nI_ge (by omega) (by omega)), e1, jx_b, z_mmix, jx_b, nI_1, e2]
      exact Or.inr ⟨by omega, _, rfl, rfl, rfl⟩
  obtain ⟨y, ey, hy⟩ := p4 q.1 q.2 (fold (fun k a => mx a (cd k)) n (mx k u'))
  refine ⟨_, _, by unfold pf_X6_digest; rw [z_withTerms hT, jx_b, d1, jx_b, c1, jx_b, v1, jx_b, z_mix, jx_b, p1, jx_b, p3, jx_b], by unfold pf_X7_digest; rw [z_mterms hT, jx_b, d2, jx_b, c2, jx_b, c3, jx_b, v3, jx_b, z_mmix, jx_b, p2, jx_b, ey, jx_b], by dsimp only; rw [hy, c4, v4], ?_, v6⟩
  rcases v5 with v5 | v5
  · exact Or.inl v5
  · dsimp only; rw [v5]; exact c5
end DG
