/-! one call of the law: both sides answer alike, and stay alike -/
theorem TR.nr {B : Nat} {te : Nat → Nat → Nat} {bs : Int32} {br : Nat → Int64} {nt : Int32} {nr nr' : Nat → Int32} (h : TR B te bs br nt nr) (hj : ∀ j, j < 96 → nr' j = nr j) : TR B te bs br nt nr' := by
  obtain ⟨h1, h2, h3, h4, h5, h6⟩ := h
  exact ⟨h1, h2, h3, h4, h5, fun t ht i hi => by rw [hj _ (by omega)]; exact h6 t ht i hi⟩
theorem sG_congr {S : Int32} {o o' : Nat → Nat → Nat} (h : ∀ p, bt S p = true → o' p = o p) (i k : Nat) : sG S o' i k = sG S o i k := funext fun p => by
  unfold sG
  cases hb : bt S p with
  | false => rfl
  | true => rw [h p hb]
theorem sX_congr {S : Int32} {o o' : Nat → Nat → Nat} (h : ∀ p, bt S p = true → o' p = o p) (i k : Nat) : sX S o' i k = sX S o i k := funext fun p => by
  unfold sX
  cases hb : bt S p with
  | false => rfl
  | true => rw [h p hb]
theorem come_congr {S : Int32} {o o' kd : Nat → Nat → Nat} {cm : Nat → Int64} (h : ∀ p, bt S p = true → o' p = o p) (hc : come S o kd cm) : come S o' kd cm := fun p hp j hj => by
  rw [hc p hp j hj]
  unfold cb
  rw [sG_congr h]
theorem pP_congr {S : Int32} {o o' kd : Nat → Nat → Nat} (h : ∀ p, bt S p = true → o' p = o p) (f : Nat) : pf_P S o' kd f = pf_P S o kd f := by
  unfold pf_P clsh hb cX
  simp only [sX_congr h]
theorem KB_congr {S : Int32} {o o' kd : Nat → Nat → Nat} {bz : Nat → Int64} (h : ∀ p, bt S p = true → o' p = o p) (hk : KB S o kd bz) : KB S o' kd bz := fun t ht hi f hf => by
  rw [hk t ht hi f hf, pP_congr (o := o) (o' := o') (fun p hp => h p (inS_bt ht hi p hp))]
theorem PR.grow {B B' : Nat} {te te' : Nat → Nat → Nat} {S : Int32} {tm : Nat → Nat} {kd : Nat → Nat → Nat} {c : Nat} {un : Nat → Int32} {ow : Nat → Int64} {ki : Nat → Int32} {th cm : Nat → Int64} {ch kf : Int32} {bz : Nat → Int64} {ns nk : Nat → Int32} (h : PR B te S tm kd c un ow ki th cm ch kf bz ns nk) (hB : B ≤ B') (ht : ∀ t, t < B → te' t = te t) : PR B' te' S tm kd c un ow ki th cm ch kf bz ns nk := by
  obtain ⟨h8, h1, h2, h3, h4, h5, h6, h7, h9, h10, h11, h12, h13, h14⟩ := h
  have ho : ∀ p, bt S p = true → te' (tm p) = te (tm p) := fun p hp => ht _ (h1 p hp)
  exact ⟨h8, fun p hp => Nat.lt_of_lt_of_le (h1 p hp) hB, h2, h3, h4, fun p hp hb => by rw [ho p hb]; exact h5 p hp hb, h6, h7, come_congr (o := fun p => te (tm p)) (o' := fun p => te' (tm p)) ho h9, h10, h11, fun hk => KB_congr (o := fun p => te (tm p)) (o' := fun p => te' (tm p)) ho (h12 hk), h13, h14⟩
theorem PR.kept {B : Nat} {te : Nat → Nat → Nat} {S : Int32} {tm : Nat → Nat} {kd : Nat → Nat → Nat} {c : Nat} {un : Nat → Int32} {ow : Nat → Int64} {ki : Nat → Int32} {th cm : Nat → Int64} {ch kf kf' : Int32} {bz bz' : Nat → Int64} {ns nk : Nat → Int32} (h : PR B te S tm kd c un ow ki th cm ch kf bz ns nk) (hk : kf' = ch ∨ kf' = kf) (hb : kf' = ch → KB S (fun p => te (tm p)) kd bz') : PR B te S tm kd c un ow ki th cm ch kf' bz' ns nk := by
  obtain ⟨h8, h1, h2, h3, h4, h5, h6, h7, h9, h10, h11, h12, h13, h14⟩ := h
  refine ⟨h8, h1, h2, h3, h4, h5, h6, h7, h9, h10, ?_, hb, h13, h14⟩
  rcases hk with hk | hk
  · exact Or.inr ⟨c, Nat.le_refl _, hk.trans h10⟩
  · rw [hk]; exact h11
def LR (c : Nat) (pl : Int32) (cd : Nat → Int32) (bs : Int32) (br : Nat → Int64) (un : Nat → Int32) (ow : Nat → Int64) (ki : Nat → Int32) (th cm : Nat → Int64) (tr tl ch : Int32) (bz : Nat → Int64) (kf : Int32) (nl : Int32) (np : Nat → Int32) (nt : Int32) (nr : Nat → Int32) (nh : Int32) (ns nk : Nat → Int32) (ne : Int32) : Prop :=
  ∃ (n B : Nat) (te : Nat → Nat → Nat) (tm : Nat → Nat) (kd : Nat → Nat → Nat) (c' : Nat), c' ≤ c ∧ n ≤ 24 ∧ pl = nI n ∧ nl = nI n ∧ (∀ j, j < n → np j = cd j) ∧ TR B te bs br nt nr ∧ PR B te tr tm kd c' un ow ki th cm ch kf bz ns nk ∧ nh = tr ∧ ne = tl
theorem LR.up {c : Nat} {pl : Int32} {cd : Nat → Int32} {bs : Int32} {br : Nat → Int64} {un : Nat → Int32} {ow : Nat → Int64} {ki : Nat → Int32} {th : Nat → Int64} {cm : Nat → Int64} {tr : Int32} {tl : Int32} {ch : Int32} {bz : Nat → Int64} {kf : Int32} {nl : Int32} {np : Nat → Int32} {nt : Int32} {nr : Nat → Int32} {nh : Int32} {ns : Nat → Int32} {nk : Nat → Int32} {ne : Int32} (h : LR c pl cd bs br un ow ki th cm tr tl ch bz kf nl np nt nr nh ns nk ne) : LR (c + 1) pl cd bs br un ow ki th cm tr tl ch bz kf nl np nt nr nh ns nk ne := by
  obtain ⟨n, B, te, tm, kd, c', hc', h⟩ := h
  exact ⟨n, B, te, tm, kd, c', by omega, h⟩
theorem LR_0 : LR 0 0 (fun _ => 0) 0 (fun _ => 0) (fun _ => 0) (fun _ => 0) jx_fillv (fun _ => 0) (fun _ => 0) 0 0 0 (fun _ => 0) (-1) 0 (fun _ => 0) 0 (fun _ => 0) 0 (fun _ => 0) (fun _ => 0) 0 := by
  have hno : ∀ {P : Prop} (p : Nat), bt 0 p = true → P := fun p h => by rw [b_0] at h; cases h
  refine ⟨0, 0, fun _ _ => 0, fun _ => 0, fun _ _ => 0, 0, Nat.le_refl _, Nat.zero_le _, rfl, rfl, fun j h => absurd h (Nat.not_lt_zero _), ⟨Nat.zero_le _, fun t h => absurd h (Nat.not_lt_zero _), rfl, rfl, fun t h => absurd h (Nat.not_lt_zero _), fun t h => absurd h (Nat.not_lt_zero _)⟩, ⟨fun i _ => b_0 i, fun p h => hno p h, fun p q _ _ h => absurd rfl h, fun p _ => rfl, fun p h => hno p h, fun p _ h => hno p h, fun p q hp hq => ⟨?_, Nat.zero_le _⟩, fun p q _ _ j _ => ?_, fun p _ j _ => ?_, rfl, Or.inl rfl, fun h => absurd h (by decide), fun p h => hno p h, fun p q h => hno p h⟩, rfl, rfl⟩
  · rw [jx_fill_m1 (by omega)]; exact (by decide : (-1 : Int32) = nI 0 - 1)
  · dsimp only; rw [l_0]; simp
  · dsimp only
    rw [l_0]
    cases hcb : cb 0 (fun _ => fun _ => 0) (fun _ _ => 0) p j with
    | false => rfl
    | true => exact hno p (cb_S hcb)
theorem s_letter {c : Nat} (hc : c < 999) {pl : Int32} {cd : Nat → Int32} {bs : Int32} {br : Nat → Int64} {un : Nat → Int32} {ow : Nat → Int64} {ki : Nat → Int32} {th : Nat → Int64} {cm : Nat → Int64} {tr : Int32} {tl : Int32} {ch : Int32} {bz : Nat → Int64} {kf : Int32} {nl : Int32} {np : Nat → Int32} {nt : Int32} {nr : Nat → Int32} {nh : Int32} {ns : Nat → Int32} {nk : Nat → Int32} {ne : Int32} (h : LR c pl cd bs br un ow ki th cm tr tl ch bz kf nl np nt nr nh ns nk ne) (jl : Nat → Int32) (rw : Nat → Int64) (nw : Int32) (na : Nat → Int32) (nf : Nat → Int32) (nc : Int32) (ng : Nat → Int32) (nx : Int64) (p0 : Int32) : ∃ r r', pf_X6_letter pl cd p0 = some r ∧ pf_X7_letter nl np p0 = some r' ∧ r.1 = r'.1 ∧ LR (c + 1) r.2.1 r.2.2 bs br un ow ki th cm tr tl ch bz kf r'.2.1 r'.2.2 nt nr nh ns nk ne := by
  obtain ⟨n, B, te, tm, kd, c', hc', hn, rfl, rfl, hpg, hT, hP, rfl, rfl⟩ := h
  unfold pf_X6_letter pf_X7_letter pf_X7_within pf_X2_write
  by_cases h1 : p0 < 32
  · rw [if_pos h1, if_pos h1, jx_b, if_neg (fun hh => hh rfl)]
    exact ⟨_, _, rfl, rfl, rfl, ⟨n, B, te, tm, kd, c', by omega, hn, rfl, rfl, hpg, hT, hP, rfl, rfl⟩⟩
  · rw [if_neg h1, if_neg h1]
    by_cases h2 : p0 ≤ 126
    · rw [if_pos h2, if_neg (show ¬ 126 < p0 from Int32.not_lt.mpr h2), jx_b, if_pos (show ¬ (1 : Int32) = 0 by decide)]
      by_cases h3 : n = 24
      · subst h3
        rw [if_pos (show (24 : Int32) ≤ nI 24 by decide), if_neg (show ¬ ¬ nI 24 = (24 : Int32) from fun hh => hh rfl)]
        exact ⟨_, _, rfl, rfl, rfl, 24, B, te, tm, kd, c', by omega, hn, rfl, rfl, hpg, hT, hP, rfl, rfl⟩
      · rw [k24, if_neg (nI_ge (by omega) (by omega)), if_neg (nI_ge (by omega) (by omega)), jx_gk _ (by omega) (by omega), jx_b, jx_b, if_pos (show ¬ nI n = nI 24 by rw [nI_eq (by omega) (by omega)]; exact h3), jx_gk _ (by omega) (by omega), nI_1, nI_clamp (by omega)]
        refine ⟨_, _, rfl, rfl, rfl, n + 1, B, te, tm, kd, c', by omega, by omega, rfl, rfl, fun j hj => ?_, hT, hP, rfl, rfl⟩
        dsimp only
        by_cases hjn : j = n
        · rw [hjn, pk_us, pk_us]
        · rw [pk_un hjn, pk_un hjn]; exact hpg j (by omega)
    · rw [if_neg h2, if_pos (show 126 < p0 from Int32.not_le.mp h2), jx_b, if_neg (fun hh => hh rfl)]
      exact ⟨_, _, rfl, rfl, rfl, ⟨n, B, te, tm, kd, c', by omega, hn, rfl, rfl, hpg, hT, hP, rfl, rfl⟩⟩
theorem s_blank {c : Nat} (hc : c < 999) {pl : Int32} {cd : Nat → Int32} {bs : Int32} {br : Nat → Int64} {un : Nat → Int32} {ow : Nat → Int64} {ki : Nat → Int32} {th : Nat → Int64} {cm : Nat → Int64} {tr : Int32} {tl : Int32} {ch : Int32} {bz : Nat → Int64} {kf : Int32} {nl : Int32} {np : Nat → Int32} {nt : Int32} {nr : Nat → Int32} {nh : Int32} {ns : Nat → Int32} {nk : Nat → Int32} {ne : Int32} (h : LR c pl cd bs br un ow ki th cm tr tl ch bz kf nl np nt nr nh ns nk ne) (jl : Nat → Int32) (rw : Nat → Int64) (nw : Int32) (na : Nat → Int32) (nf : Nat → Int32) (nc : Int32) (ng : Nat → Int32) (nx : Int64)  : ∃ r r', pf_X6_blank pl = some r ∧ pf_X7_blank nl = some r' ∧ r.1 = r'.1 ∧ LR (c + 1) r.2 cd bs br un ow ki th cm tr tl ch bz kf r'.2 np nt nr nh ns nk ne := by
  obtain ⟨n, B, te, tm, kd, c', hc', hn, rfl, rfl, hpg, hT, hP, rfl, rfl⟩ := h
  unfold pf_X6_blank pf_X7_blank pf_X2_wipe
  exact ⟨_, _, rfl, rfl, rfl, 0, B, te, tm, kd, c', by omega, by omega, rfl, rfl, fun j hj => absurd hj (Nat.not_lt_zero _), hT, hP, rfl, rfl⟩
theorem s_fault {c : Nat} (hc : c < 999) {pl : Int32} {cd : Nat → Int32} {bs : Int32} {br : Nat → Int64} {un : Nat → Int32} {ow : Nat → Int64} {ki : Nat → Int32} {th : Nat → Int64} {cm : Nat → Int64} {tr : Int32} {tl : Int32} {ch : Int32} {bz : Nat → Int64} {kf : Int32} {nl : Int32} {np : Nat → Int32} {nt : Int32} {nr : Nat → Int32} {nh : Int32} {ns : Nat → Int32} {nk : Nat → Int32} {ne : Int32} (h : LR c pl cd bs br un ow ki th cm tr tl ch bz kf nl np nt nr nh ns nk ne) (jl : Nat → Int32) (rw : Nat → Int64) (nw : Int32) (na : Nat → Int32) (nf : Nat → Int32) (nc : Int32) (ng : Nat → Int32) (nx : Int64)  : ∃ r r', pf_X6_fault pl cd = some r ∧ pf_X7_fault nl np nr = some r' ∧ r = r'.1 ∧ LR (c + 1) pl cd bs br un ow ki th cm tr tl ch bz kf nl np nt r'.2 nh ns nk ne := by
  obtain ⟨n, B, te, tm, kd, c', hc', hn, rfl, rfl, hpg, hT, hP, rfl, rfl⟩ := h
  obtain ⟨r, r', e1, e2, e3, e4⟩ := q_fault (nr := nr) hn hpg
  exact ⟨r, r', e1, e2, e3, n, B, te, tm, kd, c', by omega, hn, rfl, rfl, hpg, TR.nr hT e4, hP, rfl, rfl⟩
theorem s_terms {c : Nat} (hc : c < 999) {pl : Int32} {cd : Nat → Int32} {bs : Int32} {br : Nat → Int64} {un : Nat → Int32} {ow : Nat → Int64} {ki : Nat → Int32} {th : Nat → Int64} {cm : Nat → Int64} {tr : Int32} {tl : Int32} {ch : Int32} {bz : Nat → Int64} {kf : Int32} {nl : Int32} {np : Nat → Int32} {nt : Int32} {nr : Nat → Int32} {nh : Int32} {ns : Nat → Int32} {nk : Nat → Int32} {ne : Int32} (h : LR c pl cd bs br un ow ki th cm tr tl ch bz kf nl np nt nr nh ns nk ne) (jl : Nat → Int32) (rw : Nat → Int64) (nw : Int32) (na : Nat → Int32) (nf : Nat → Int32) (nc : Int32) (ng : Nat → Int32) (nx : Int64)  : ∃ r r', pf_X6_terms pl cd bs br = some r ∧ pf_X7_terms nl np nt nr = some r' ∧ r.1 = r'.1 ∧ LR (c + 1) r.2.1 cd r.2.2.1 r.2.2.2 un ow ki th cm tr tl ch bz kf r'.2.1 np r'.2.2.1 r'.2.2.2 nh ns nk ne := by
  obtain ⟨n, B, te, tm, kd, c', hc', hn, rfl, rfl, hpg, hT, hP, rfl, rfl⟩ := h
  obtain ⟨r, r', B', te', e1, e2, e3, e4, e5, e6, e7, e8⟩ := q_terms hT hn hpg
  have hP' := PR.grow hP e7 e8
  rcases e5 with e5 | e5
  · exact ⟨r, r', e1, e2, e3, n, B', te', tm, kd, c', by omega, hn, e5, by rw [← e4, e5], hpg, e6, hP', rfl, rfl⟩
  · exact ⟨r, r', e1, e2, e3, 0, B', te', tm, kd, c', by omega, by omega, e5, by rw [← e4, e5], fun j hj => absurd hj (Nat.not_lt_zero _), e6, hP', rfl, rfl⟩
theorem s_reach {c : Nat} (hc : c < 999) {pl : Int32} {cd : Nat → Int32} {bs : Int32} {br : Nat → Int64} {un : Nat → Int32} {ow : Nat → Int64} {ki : Nat → Int32} {th : Nat → Int64} {cm : Nat → Int64} {tr : Int32} {tl : Int32} {ch : Int32} {bz : Nat → Int64} {kf : Int32} {nl : Int32} {np : Nat → Int32} {nt : Int32} {nr : Nat → Int32} {nh : Int32} {ns : Nat → Int32} {nk : Nat → Int32} {ne : Int32} (h : LR c pl cd bs br un ow ki th cm tr tl ch bz kf nl np nt nr nh ns nk ne) (jl : Nat → Int32) (rw : Nat → Int64) (nw : Int32) (na : Nat → Int32) (nf : Nat → Int32) (nc : Int32) (ng : Nat → Int32) (nx : Int64) (p0 : Int32) (p1 : Int32) : ∃ r r', pf_X6_reach bs br p0 p1 = some r ∧ pf_X7_reach nt nr p0 p1 = some r' ∧ r = r' ∧ LR (c + 1) pl cd bs br un ow ki th cm tr tl ch bz kf nl np nt nr nh ns nk ne := by
  obtain ⟨n, B, te, tm, kd, c', hc', hn, rfl, rfl, hpg, hT, hP, rfl, rfl⟩ := h
  obtain ⟨r, e1, e2⟩ := q_reach hT p0 p1
  exact ⟨r, r, e1, e2, rfl, ⟨n, B, te, tm, kd, c', by omega, hn, rfl, rfl, hpg, hT, hP, rfl, rfl⟩⟩
theorem s_two {c : Nat} (hc : c < 999) {pl : Int32} {cd : Nat → Int32} {bs : Int32} {br : Nat → Int64} {un : Nat → Int32} {ow : Nat → Int64} {ki : Nat → Int32} {th : Nat → Int64} {cm : Nat → Int64} {tr : Int32} {tl : Int32} {ch : Int32} {bz : Nat → Int64} {kf : Int32} {nl : Int32} {np : Nat → Int32} {nt : Int32} {nr : Nat → Int32} {nh : Int32} {ns : Nat → Int32} {nk : Nat → Int32} {ne : Int32} (h : LR c pl cd bs br un ow ki th cm tr tl ch bz kf nl np nt nr nh ns nk ne) (jl : Nat → Int32) (rw : Nat → Int64) (nw : Int32) (na : Nat → Int32) (nf : Nat → Int32) (nc : Int32) (ng : Nat → Int32) (nx : Int64) (p0 : Int32) (p1 : Int32) (p2 : Int32) : ∃ r r', pf_X6_two bs br p0 p1 p2 = some r ∧ pf_X7_two nt nr p0 p1 p2 = some r' ∧ r = r'.1 ∧ LR (c + 1) pl cd bs br un ow ki th cm tr tl ch bz kf nl np nt r'.2 nh ns nk ne := by
  obtain ⟨n, B, te, tm, kd, c', hc', hn, rfl, rfl, hpg, hT, hP, rfl, rfl⟩ := h
  obtain ⟨r, r', e1, e2, e3, e4⟩ := q_two hT p0 p1 p2
  exact ⟨r, r', e1, e2, e3, n, B, te, tm, kd, c', by omega, hn, rfl, rfl, hpg, TR.nr hT e4, hP, rfl, rfl⟩
theorem s_part {c : Nat} (hc : c < 999) {pl : Int32} {cd : Nat → Int32} {bs : Int32} {br : Nat → Int64} {un : Nat → Int32} {ow : Nat → Int64} {ki : Nat → Int32} {th : Nat → Int64} {cm : Nat → Int64} {tr : Int32} {tl : Int32} {ch : Int32} {bz : Nat → Int64} {kf : Int32} {nl : Int32} {np : Nat → Int32} {nt : Int32} {nr : Nat → Int32} {nh : Int32} {ns : Nat → Int32} {nk : Nat → Int32} {ne : Int32} (h : LR c pl cd bs br un ow ki th cm tr tl ch bz kf nl np nt nr nh ns nk ne) (jl : Nat → Int32) (rw : Nat → Int64) (nw : Int32) (na : Nat → Int32) (nf : Nat → Int32) (nc : Int32) (ng : Nat → Int32) (nx : Int64) (p0 : Int32) : ∃ r r', pf_X6_part bs br un ow th cm tr ch p0 = some r ∧ pf_X7_part nt nh ns nk p0 = some r' ∧ r.1 = r'.1 ∧ LR (c + 1) pl cd bs br r.2.1 r.2.2.1 ki th r.2.2.2.1 r.2.2.2.2.1 tl r.2.2.2.2.2 bz kf nl np nt nr r'.2.1 r'.2.2.1 r'.2.2.2 ne := by
  obtain ⟨n, B, te, tm, kd, c', hc', hn, rfl, rfl, hpg, hT, hP, rfl, rfl⟩ := h
  obtain ⟨r, r', S', tm', kd', c2, e1, e2, e3, e4, e5, e6, e7⟩ := q_part (by omega) hT hP p0
  exact ⟨r, r', e1, e2, e3, n, B, te, tm', kd', c2, by omega, hn, rfl, rfl, hpg, hT, by rw [e4]; exact e7, by rw [e4, e5], rfl⟩
theorem s_give {c : Nat} (hc : c < 999) {pl : Int32} {cd : Nat → Int32} {bs : Int32} {br : Nat → Int64} {un : Nat → Int32} {ow : Nat → Int64} {ki : Nat → Int32} {th : Nat → Int64} {cm : Nat → Int64} {tr : Int32} {tl : Int32} {ch : Int32} {bz : Nat → Int64} {kf : Int32} {nl : Int32} {np : Nat → Int32} {nt : Int32} {nr : Nat → Int32} {nh : Int32} {ns : Nat → Int32} {nk : Nat → Int32} {ne : Int32} (h : LR c pl cd bs br un ow ki th cm tr tl ch bz kf nl np nt nr nh ns nk ne) (jl : Nat → Int32) (rw : Nat → Int64) (nw : Int32) (na : Nat → Int32) (nf : Nat → Int32) (nc : Int32) (ng : Nat → Int32) (nx : Int64) (p0 : Int32) (p1 : Int32) : ∃ r r', pf_X6_give bs br un ow th cm tr ch p0 p1 = some r ∧ pf_X7_give nt nh ns p0 p1 = some r' ∧ r.1 = r'.1 ∧ LR (c + 1) pl cd bs br r.2.1 r.2.2.1 ki th r.2.2.2.1 r.2.2.2.2.1 tl r.2.2.2.2.2 bz kf nl np nt nr nh r'.2 nk ne := by
  obtain ⟨n, B, te, tm, kd, c', hc', hn, rfl, rfl, hpg, hT, hP, rfl, rfl⟩ := h
  obtain ⟨r, r', tm', c2, e1, e2, e3, e4, e6, e7⟩ := q_give (by omega) hT hP p0 p1
  exact ⟨r, r', e1, e2, e3, n, B, te, tm', kd, c2, by omega, hn, rfl, rfl, hpg, hT, by rw [e4]; exact e7, by rw [e4], rfl⟩
theorem s_leave {c : Nat} (hc : c < 999) {pl : Int32} {cd : Nat → Int32} {bs : Int32} {br : Nat → Int64} {un : Nat → Int32} {ow : Nat → Int64} {ki : Nat → Int32} {th : Nat → Int64} {cm : Nat → Int64} {tr : Int32} {tl : Int32} {ch : Int32} {bz : Nat → Int64} {kf : Int32} {nl : Int32} {np : Nat → Int32} {nt : Int32} {nr : Nat → Int32} {nh : Int32} {ns : Nat → Int32} {nk : Nat → Int32} {ne : Int32} (h : LR c pl cd bs br un ow ki th cm tr tl ch bz kf nl np nt nr nh ns nk ne) (jl : Nat → Int32) (rw : Nat → Int64) (nw : Int32) (na : Nat → Int32) (nf : Nat → Int32) (nc : Int32) (ng : Nat → Int32) (nx : Int64) (p0 : Int32) : ∃ r r', pf_X6_leave ow ki th cm tr tl ch p0 = some r ∧ pf_X7_leave nh nk ne p0 = some r' ∧ r.1 = r'.1 ∧ LR (c + 1) pl cd bs br un ow r.2.1 r.2.2.1 r.2.2.2.1 r.2.2.2.2.1 r.2.2.2.2.2.1 r.2.2.2.2.2.2 bz kf nl np nt nr r'.2.1 ns nk r'.2.2 := by
  obtain ⟨n, B, te, tm, kd, c', hc', hn, rfl, rfl, hpg, hT, hP, rfl, rfl⟩ := h
  obtain ⟨r, r', S', kd', c2, e1, e2, e3, e4, e5, e8, e6, e7⟩ := q_leave (by omega) hT hP ne p0
  exact ⟨r, r', e1, e2, e3, n, B, te, tm, kd', c2, by omega, hn, rfl, rfl, hpg, hT, by rw [e4]; exact e7, by rw [e4, e5], e8.symm⟩
theorem s_join {c : Nat} (hc : c < 999) {pl : Int32} {cd : Nat → Int32} {bs : Int32} {br : Nat → Int64} {un : Nat → Int32} {ow : Nat → Int64} {ki : Nat → Int32} {th : Nat → Int64} {cm : Nat → Int64} {tr : Int32} {tl : Int32} {ch : Int32} {bz : Nat → Int64} {kf : Int32} {nl : Int32} {np : Nat → Int32} {nt : Int32} {nr : Nat → Int32} {nh : Int32} {ns : Nat → Int32} {nk : Nat → Int32} {ne : Int32} (h : LR c pl cd bs br un ow ki th cm tr tl ch bz kf nl np nt nr nh ns nk ne) (jl : Nat → Int32) (rw : Nat → Int64) (nw : Int32) (na : Nat → Int32) (nf : Nat → Int32) (nc : Int32) (ng : Nat → Int32) (nx : Int64) (p0 : Int32) (p1 : Int32) (p2 : Int32) : ∃ r r', pf_X6_join ow ki th cm tr ch p0 p1 p2 = some r ∧ pf_X7_join nh nk p0 p1 p2 = some r' ∧ r.1 = r'.1 ∧ LR (c + 1) pl cd bs br un ow r.2.1 r.2.2.1 r.2.2.2.1 tr tl r.2.2.2.2 bz kf nl np nt nr nh ns r'.2 ne := by
  obtain ⟨n, B, te, tm, kd, c', hc', hn, rfl, rfl, hpg, hT, hP, rfl, rfl⟩ := h
  obtain ⟨r, r', kd', c2, e1, e2, e3, e6, e7⟩ := q_join (by omega) hT hP p0 p1 p2
  exact ⟨r, r', e1, e2, e3, n, B, te, tm, kd', c2, by omega, hn, rfl, rfl, hpg, hT, e7, rfl, rfl⟩
theorem s_kind {c : Nat} (hc : c < 999) {pl : Int32} {cd : Nat → Int32} {bs : Int32} {br : Nat → Int64} {un : Nat → Int32} {ow : Nat → Int64} {ki : Nat → Int32} {th : Nat → Int64} {cm : Nat → Int64} {tr : Int32} {tl : Int32} {ch : Int32} {bz : Nat → Int64} {kf : Int32} {nl : Int32} {np : Nat → Int32} {nt : Int32} {nr : Nat → Int32} {nh : Int32} {ns : Nat → Int32} {nk : Nat → Int32} {ne : Int32} (h : LR c pl cd bs br un ow ki th cm tr tl ch bz kf nl np nt nr nh ns nk ne) (jl : Nat → Int32) (rw : Nat → Int64) (nw : Int32) (na : Nat → Int32) (nf : Nat → Int32) (nc : Int32) (ng : Nat → Int32) (nx : Int64) (p0 : Int32) (p1 : Int32) : ∃ r r', pf_X6_kind ki tr p0 p1 = some r ∧ pf_X7_kind nh nk p0 p1 = some r' ∧ r = r' ∧ LR (c + 1) pl cd bs br un ow ki th cm tr tl ch bz kf nl np nt nr nh ns nk ne := by
  obtain ⟨n, B, te, tm, kd, c', hc', hn, rfl, rfl, hpg, hT, hP, rfl, rfl⟩ := h
  obtain ⟨r, e1, e2⟩ := q_kind hP p0 p1
  exact ⟨r, r, e1, e2, rfl, ⟨n, B, te, tm, kd, c', by omega, hn, rfl, rfl, hpg, hT, hP, rfl, rfl⟩⟩
theorem s_of {c : Nat} (hc : c < 999) {pl : Int32} {cd : Nat → Int32} {bs : Int32} {br : Nat → Int64} {un : Nat → Int32} {ow : Nat → Int64} {ki : Nat → Int32} {th : Nat → Int64} {cm : Nat → Int64} {tr : Int32} {tl : Int32} {ch : Int32} {bz : Nat → Int64} {kf : Int32} {nl : Int32} {np : Nat → Int32} {nt : Int32} {nr : Nat → Int32} {nh : Int32} {ns : Nat → Int32} {nk : Nat → Int32} {ne : Int32} (h : LR c pl cd bs br un ow ki th cm tr tl ch bz kf nl np nt nr nh ns nk ne) (jl : Nat → Int32) (rw : Nat → Int64) (nw : Int32) (na : Nat → Int32) (nf : Nat → Int32) (nc : Int32) (ng : Nat → Int32) (nx : Int64) (p0 : Int32) (p1 : Int32) : ∃ r r', pf_X6_of un ki cm tr p0 p1 = some r ∧ pf_X7_of nr nh ns nk p0 p1 = some r' ∧ r = r' ∧ LR (c + 1) pl cd bs br un ow ki th cm tr tl ch bz kf nl np nt nr nh ns nk ne := by
  obtain ⟨n, B, te, tm, kd, c', hc', hn, rfl, rfl, hpg, hT, hP, rfl, rfl⟩ := h
  have hM := hP.MO hT
  obtain ⟨h8, h1, h2, h3, h4, h5, h6, h7, h9, h10, h11, h12, h13, h14⟩ := id hP
  obtain ⟨r, e1, e2⟩ := q_of (un := un) hM h6 h2 h9 (fun q hq => by rw [h4 q hq, h13 q hq]) p0 p1
  exact ⟨r, r, e1, e2, rfl, ⟨n, B, te, tm, kd, c', by omega, hn, rfl, rfl, hpg, hT, hP, rfl, rfl⟩⟩
theorem s_held {c : Nat} (hc : c < 999) {pl : Int32} {cd : Nat → Int32} {bs : Int32} {br : Nat → Int64} {un : Nat → Int32} {ow : Nat → Int64} {ki : Nat → Int32} {th : Nat → Int64} {cm : Nat → Int64} {tr : Int32} {tl : Int32} {ch : Int32} {bz : Nat → Int64} {kf : Int32} {nl : Int32} {np : Nat → Int32} {nt : Int32} {nr : Nat → Int32} {nh : Int32} {ns : Nat → Int32} {nk : Nat → Int32} {ne : Int32} (h : LR c pl cd bs br un ow ki th cm tr tl ch bz kf nl np nt nr nh ns nk ne) (jl : Nat → Int32) (rw : Nat → Int64) (nw : Int32) (na : Nat → Int32) (nf : Nat → Int32) (nc : Int32) (ng : Nat → Int32) (nx : Int64) (p0 : Int32) (p1 : Int32) : ∃ r r', pf_X6_held cm tr p0 p1 = some r ∧ pf_X7_held nr nh ns nk p0 p1 = some r' ∧ r = r' ∧ LR (c + 1) pl cd bs br un ow ki th cm tr tl ch bz kf nl np nt nr nh ns nk ne := by
  obtain ⟨n, B, te, tm, kd, c', hc', hn, rfl, rfl, hpg, hT, hP, rfl, rfl⟩ := h
  have hM := hP.MO hT
  obtain ⟨h8, h1, h2, h3, h4, h5, h6, h7, h9, h10, h11, h12, h13, h14⟩ := id hP
  obtain ⟨r, e1, e2⟩ := q_held hM h9 p0 p1
  exact ⟨r, r, e1, e2, rfl, ⟨n, B, te, tm, kd, c', by omega, hn, rfl, rfl, hpg, hT, hP, rfl, rfl⟩⟩
theorem s_way {c : Nat} (hc : c < 999) {pl : Int32} {cd : Nat → Int32} {bs : Int32} {br : Nat → Int64} {un : Nat → Int32} {ow : Nat → Int64} {ki : Nat → Int32} {th : Nat → Int64} {cm : Nat → Int64} {tr : Int32} {tl : Int32} {ch : Int32} {bz : Nat → Int64} {kf : Int32} {nl : Int32} {np : Nat → Int32} {nt : Int32} {nr : Nat → Int32} {nh : Int32} {ns : Nat → Int32} {nk : Nat → Int32} {ne : Int32} (h : LR c pl cd bs br un ow ki th cm tr tl ch bz kf nl np nt nr nh ns nk ne) (jl : Nat → Int32) (rw : Nat → Int64) (nw : Int32) (na : Nat → Int32) (nf : Nat → Int32) (nc : Int32) (ng : Nat → Int32) (nx : Int64) (p0 : Int32) (p1 : Int32) (p2 : Int32) : ∃ r r', pf_X6_way ow ki cm tr jl p0 p1 p2 = some r ∧ pf_X7_way nr nh ns nk nw na nf p0 p1 p2 = some r' ∧ r.1 = r'.1 ∧ LR (c + 1) pl cd bs br un ow ki th cm tr tl ch bz kf nl np nt nr nh ns nk ne := by
  obtain ⟨n, B, te, tm, kd, c', hc', hn, rfl, rfl, hpg, hT, hP, rfl, rfl⟩ := h
  have hM := hP.MO hT
  obtain ⟨h8, h1, h2, h3, h4, h5, h6, h7, h9, h10, h11, h12, h13, h14⟩ := id hP
  obtain ⟨r, r', e1, e2, e3⟩ := q_way hM h6 h2 h5 h9 jl nw na nf p0 p1 p2
  exact ⟨r, r', e1, e2, e3, ⟨n, B, te, tm, kd, c', by omega, hn, rfl, rfl, hpg, hT, hP, rfl, rfl⟩⟩
theorem s_clash {c : Nat} (hc : c < 999) {pl : Int32} {cd : Nat → Int32} {bs : Int32} {br : Nat → Int64} {un : Nat → Int32} {ow : Nat → Int64} {ki : Nat → Int32} {th : Nat → Int64} {cm : Nat → Int64} {tr : Int32} {tl : Int32} {ch : Int32} {bz : Nat → Int64} {kf : Int32} {nl : Int32} {np : Nat → Int32} {nt : Int32} {nr : Nat → Int32} {nh : Int32} {ns : Nat → Int32} {nk : Nat → Int32} {ne : Int32} (h : LR c pl cd bs br un ow ki th cm tr tl ch bz kf nl np nt nr nh ns nk ne) (jl : Nat → Int32) (rw : Nat → Int64) (nw : Int32) (na : Nat → Int32) (nf : Nat → Int32) (nc : Int32) (ng : Nat → Int32) (nx : Int64) (p0 : Int32) : ∃ r r', pf_X6_clash cm p0 = some r ∧ pf_X7_clash nr nh ns nk nc ng p0 = some r' ∧ r = r'.1 ∧ LR (c + 1) pl cd bs br un ow ki th cm tr tl ch bz kf nl np nt nr nh ns nk ne := by
  obtain ⟨n, B, te, tm, kd, c', hc', hn, rfl, rfl, hpg, hT, hP, rfl, rfl⟩ := h
  have hM := hP.MO hT
  obtain ⟨h8, h1, h2, h3, h4, h5, h6, h7, h9, h10, h11, h12, h13, h14⟩ := id hP
  obtain ⟨r, r', e1, e2, e3⟩ := q_clash hM h9 nc ng p0
  exact ⟨r, r', e1, e2, e3, ⟨n, B, te, tm, kd, c', by omega, hn, rfl, rfl, hpg, hT, hP, rfl, rfl⟩⟩
theorem s_cause {c : Nat} (hc : c < 999) {pl : Int32} {cd : Nat → Int32} {bs : Int32} {br : Nat → Int64} {un : Nat → Int32} {ow : Nat → Int64} {ki : Nat → Int32} {th : Nat → Int64} {cm : Nat → Int64} {tr : Int32} {tl : Int32} {ch : Int32} {bz : Nat → Int64} {kf : Int32} {nl : Int32} {np : Nat → Int32} {nt : Int32} {nr : Nat → Int32} {nh : Int32} {ns : Nat → Int32} {nk : Nat → Int32} {ne : Int32} (h : LR c pl cd bs br un ow ki th cm tr tl ch bz kf nl np nt nr nh ns nk ne) (jl : Nat → Int32) (rw : Nat → Int64) (nw : Int32) (na : Nat → Int32) (nf : Nat → Int32) (nc : Int32) (ng : Nat → Int32) (nx : Int64) (p0 : Int32) (p1 : Int32) : ∃ r r', pf_X6_cause ow th cm tr ch bz rw kf p0 p1 = some r ∧ pf_X7_cause nr nh ns nk p0 p1 = some r' ∧ r.1 = r' ∧ LR (c + 1) pl cd bs br un ow ki th cm tr tl ch r.2.1 r.2.2.2 nl np nt nr nh ns nk ne := by
  obtain ⟨n, B, te, tm, kd, c', hc', hn, rfl, rfl, hpg, hT, hP, rfl, rfl⟩ := h
  have hM := hP.MO hT
  obtain ⟨h8, h1, h2, h3, h4, h5, h6, h7, h9, h10, h11, h12, h13, h14⟩ := id hP
  have hth : ∀ p q, p < 8 → q < 8 → bt nh p = true → bt nh q = true → tOK (th (p * 8 + q)) (kd p q) := fun p q hp hq _ _ => h7 p q hp hq
  obtain ⟨r, r', e1, e2, e3, e4, e5⟩ := q_cause hM h9 h5 hth ch kf bz rw h12 p0 p1
  exact ⟨r, r', e1, e2, e3, n, B, te, tm, kd, c', by omega, hn, rfl, rfl, hpg, hT, PR.kept hP e4 e5, rfl, rfl⟩
theorem s_cure {c : Nat} (hc : c < 999) {pl : Int32} {cd : Nat → Int32} {bs : Int32} {br : Nat → Int64} {un : Nat → Int32} {ow : Nat → Int64} {ki : Nat → Int32} {th : Nat → Int64} {cm : Nat → Int64} {tr : Int32} {tl : Int32} {ch : Int32} {bz : Nat → Int64} {kf : Int32} {nl : Int32} {np : Nat → Int32} {nt : Int32} {nr : Nat → Int32} {nh : Int32} {ns : Nat → Int32} {nk : Nat → Int32} {ne : Int32} (h : LR c pl cd bs br un ow ki th cm tr tl ch bz kf nl np nt nr nh ns nk ne) (jl : Nat → Int32) (rw : Nat → Int64) (nw : Int32) (na : Nat → Int32) (nf : Nat → Int32) (nc : Int32) (ng : Nat → Int32) (nx : Int64)  : ∃ r r', pf_X6_cure ow th cm tr ch bz rw kf = some r ∧ pf_X7_cure nr nh ns nk = some r' ∧ r.1 = r' ∧ LR (c + 1) pl cd bs br un ow ki th cm tr tl ch r.2.1 r.2.2.2 nl np nt nr nh ns nk ne := by
  obtain ⟨n, B, te, tm, kd, c', hc', hn, rfl, rfl, hpg, hT, hP, rfl, rfl⟩ := h
  have hM := hP.MO hT
  obtain ⟨h8, h1, h2, h3, h4, h5, h6, h7, h9, h10, h11, h12, h13, h14⟩ := id hP
  have hth : ∀ p q, p < 8 → q < 8 → bt nh p = true → bt nh q = true → tOK (th (p * 8 + q)) (kd p q) := fun p q hp hq _ _ => h7 p q hp hq
  obtain ⟨r, r', e1, e2, _, e3, e4, e5⟩ := q_cure hM h9 h5 hth ch kf bz rw h12
  exact ⟨r, r', e1, e2, e3, n, B, te, tm, kd, c', by omega, hn, rfl, rfl, hpg, hT, PR.kept hP e4 e5, rfl, rfl⟩
theorem s_count {c : Nat} (hc : c < 999) {pl : Int32} {cd : Nat → Int32} {bs : Int32} {br : Nat → Int64} {un : Nat → Int32} {ow : Nat → Int64} {ki : Nat → Int32} {th : Nat → Int64} {cm : Nat → Int64} {tr : Int32} {tl : Int32} {ch : Int32} {bz : Nat → Int64} {kf : Int32} {nl : Int32} {np : Nat → Int32} {nt : Int32} {nr : Nat → Int32} {nh : Int32} {ns : Nat → Int32} {nk : Nat → Int32} {ne : Int32} (h : LR c pl cd bs br un ow ki th cm tr tl ch bz kf nl np nt nr nh ns nk ne) (jl : Nat → Int32) (rw : Nat → Int64) (nw : Int32) (na : Nat → Int32) (nf : Nat → Int32) (nc : Int32) (ng : Nat → Int32) (nx : Int64) (p0 : Int32) : ∃ r r', pf_X6_count pl bs ki cm tr tl p0 = some r ∧ pf_X7_count nl nt nr nh ns nk ne nc ng p0 = some r' ∧ r = r'.1 ∧ LR (c + 1) pl cd bs br un ow ki th cm tr tl ch bz kf nl np nt nr nh ns nk ne := by
  obtain ⟨n, B, te, tm, kd, c', hc', hn, rfl, rfl, hpg, hT, hP, rfl, rfl⟩ := h
  have hM := hP.MO hT
  obtain ⟨h8, h1, h2, h3, h4, h5, h6, h7, h9, h10, h11, h12, h13, h14⟩ := id hP
  obtain ⟨hB, ho, hbs, hnt, hX, hMr⟩ := id hT
  obtain ⟨r, r', e1, e2, e3⟩ := q_count hM h6 h2 h9 (nI n) bs ne nc ng p0
  exact ⟨r, r', e1, by rw [hnt, ← hbs]; exact e2, e3, ⟨n, B, te, tm, kd, c', by omega, hn, rfl, rfl, hpg, hT, hP, rfl, rfl⟩⟩
theorem s_digest {c : Nat} (hc : c < 999) {pl : Int32} {cd : Nat → Int32} {bs : Int32} {br : Nat → Int64} {un : Nat → Int32} {ow : Nat → Int64} {ki : Nat → Int32} {th : Nat → Int64} {cm : Nat → Int64} {tr : Int32} {tl : Int32} {ch : Int32} {bz : Nat → Int64} {kf : Int32} {nl : Int32} {np : Nat → Int32} {nt : Int32} {nr : Nat → Int32} {nh : Int32} {ns : Nat → Int32} {nk : Nat → Int32} {ne : Int32} (h : LR c pl cd bs br un ow ki th cm tr tl ch bz kf nl np nt nr nh ns nk ne) (jl : Nat → Int32) (rw : Nat → Int64) (nw : Int32) (na : Nat → Int32) (nf : Nat → Int32) (nc : Int32) (ng : Nat → Int32) (nx : Int64)  : ∃ r r', pf_X6_digest pl cd bs br un ow ki th cm tr tl ch bz rw kf = some r ∧ pf_X7_digest nl np nt nr nh ns nk ne nc ng nx = some r' ∧ r.1 = r'.1 ∧ LR (c + 1) pl cd bs br un ow ki th cm tr tl ch r.2.1 r.2.2.2 nl np nt nr nh ns nk ne := by
  obtain ⟨n, B, te, tm, kd, c', hc', hn, rfl, rfl, hpg, hT, hP, rfl, rfl⟩ := h
  obtain ⟨r, r', e1, e2, e3, e4, e5⟩ := q_digest hn hpg hT hP ne rw nc ng nx
  exact ⟨r, r', e1, e2, e3, n, B, te, tm, kd, c', by omega, hn, rfl, rfl, hpg, hT, PR.kept hP e4 e5, rfl, rfl⟩
