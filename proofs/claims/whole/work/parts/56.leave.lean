/-! leave, join, kind: alike -/
section LV
variable {B : Nat} {te : Nat → Nat → Nat} {S : Int32} {tm : Nat → Nat} {kd : Nat → Nat → Nat} {c : Nat} {un : Nat → Int32} {ow : Nat → Int64} {ki : Nat → Int32} {th cm : Nat → Int64} {ch kf : Int32} {bz : Nat → Int64} {ns nk : Nat → Int32} {bs : Int32} {br : Nat → Int64} {nt : Int32} {nr : Nat → Int32}
theorem KX_congr {ki : Nat → Int32} {kd kd' : Nat → Nat → Nat} (h : ∀ a b, a < 8 → b < 8 → kd a b = kd' a b) (hX : KX ki kd) : KX ki kd' := fun a b ha hb => by rw [← h a b ha hb]; exact hX a b ha hb
def koff (kd : Nat → Nat → Nat) (p : Nat) : Nat → Nat → Nat := fun a b => if a = p ∨ b = p then 0 else kd a b
theorem koff_n {kd : Nat → Nat → Nat} {p a b : Nat} (ha : a ≠ p) (hb : b ≠ p) : koff kd p a b = kd a b := if_neg (fun h => h.elim ha hb)
theorem z_remove1 (hX : KX ki kd) (hth : ∀ p q, p < 8 → q < 8 → tOK (th (p * 8 + q)) (kd p q)) {p : Nat} (hp : p < 8) : ∃ r, jx_iter (pf_X3_remove_s1 (nI p)) jx_F ((0 : Int32), ki, th) = some r ∧ KX r.1 (koff kd p) ∧ ∀ a b, a < 8 → b < 8 → tOK (r.2 (a * 8 + b)) (koff kd p a b) := by
  obtain ⟨r, e, h1, h2⟩ := jx_loop0 (step := pf_X3_remove_s1 (nI p)) (fun n s => s.1 = nI n ∧ KX s.2.1 (fun a b => if (a = p ∧ b < n) ∨ (b = p ∧ a < n) then 0 else kd a b) ∧ ∀ a b, a < 8 → b < 8 → tOK (s.2.2 (a * 8 + b)) (if (a = p ∧ b < n) ∨ (b = p ∧ a < n) then 0 else kd a b)) (fun r => KX r.1 (koff kd p) ∧ ∀ a b, a < 8 → b < 8 → tOK (r.2 (a * 8 + b)) (koff kd p a b)) 8 (by omega) ((0 : Int32), ki, th) ⟨rfl, KX_congr (fun a b _ _ => by rw [if_neg (by omega)]) hX, fun a b ha hb => by rw [if_neg (by omega)]; exact hth a b ha hb⟩ (by
    rintro n ⟨z, G, T⟩ hn ⟨rfl, g1, g2⟩
    dsimp only at g1 g2
    unfold pf_X3_remove_s1
    dsimp only
    by_cases h8 : 8 ≤ n
    · rw [k8, if_pos (nI_le h8 (by omega))]
      have key : ∀ a b, a < 8 → b < 8 → (if (a = p ∧ b < n) ∨ (b = p ∧ a < n) then 0 else kd a b) = koff kd p a b := by
        intro a b ha hb
        unfold koff
        by_cases hh : a = p ∨ b = p
        · rw [if_pos hh, if_pos (by omega)]
        · rw [if_neg hh, if_neg (by omega)]
      exact Or.inl ⟨_, rfl, KX_congr key g1, fun a b ha hb => by rw [← key a b ha hb]; exact g2 a b ha hb⟩
    · obtain ⟨r1, e1, a1, a2⟩ := z_setJoin g1 g2 hp (show n < 8 by omega) (show 0 ≤ 4 by omega)
      obtain ⟨r2, e2, b1, b2⟩ := z_setJoin a1 a2 (show n < 8 by omega) hp (show 0 ≤ 4 by omega)
      rw [show nI 0 - 1 = -1 by decide] at e1 e2
      have key : ∀ a b, a < 8 → b < 8 → kset (kset (fun a b => if (a = p ∧ b < n) ∨ (b = p ∧ a < n) then 0 else kd a b) p n 0) n p 0 a b = if (a = p ∧ b < n + 1) ∨ (b = p ∧ a < n + 1) then 0 else kd a b := by
        intro a b ha hb
        unfold kset
        by_cases c1 : a = n ∧ b = p
        · rw [if_pos c1, if_pos (by omega)]
        · rw [if_neg c1]
          by_cases c2 : a = p ∧ b = n
          · rw [if_pos c2, if_pos (by omega)]
          · rw [if_neg c2]
            dsimp only
            by_cases c3 : (a = p ∧ b < n) ∨ (b = p ∧ a < n)
            · rw [if_pos c3, if_pos (by omega)]
            · rw [if_neg c3, if_neg (by omega)]
      rw [k8, if_neg (nI_ge (by omega) (by omega)), e1, jx_b, e2, jx_b, nI_1]
      exact Or.inr ⟨by omega, _, rfl, rfl, KX_congr key b1, fun a b ha hb => by rw [← key a b ha hb]; exact b2 a b ha hb⟩)
  exact ⟨r, e, h1, h2⟩
theorem q_leave (hc : c < 1000) (hT : TR B te bs br nt nr) (h : PR B te S tm kd c un ow ki th cm ch kf bz ns nk) (tl x : Int32) : ∃ r r' S' kd' c', pf_X6_leave ow ki th cm S tl ch x = some r ∧ pf_X7_leave S nk tl x = some r' ∧ r.1 = r'.1 ∧ r.2.2.2.2.1 = S' ∧ r'.2.1 = S' ∧ r.2.2.2.2.2.1 = r'.2.2 ∧ c' ≤ c + 1 ∧ PR B te S' tm kd' c' un ow r.2.1 r.2.2.1 r.2.2.2.1 r.2.2.2.2.2.2 kf bz ns nk := by
  have hM := h.MO hT
  obtain ⟨h8, h1, h2, h3, h4, h5, h6, h7, h9, h10, h11, h12, h13, h14⟩ := id h
  unfold pf_X6_leave pf_X7_leave
  rcases ix x 8 (by omega) with hx | ⟨p, hp, rfl⟩
  · rw [z_xhas_out S hx, z_mhas_out S hx, jx_b, jx_b, if_pos rfl, if_neg (show ¬ ¬ (0 : Int32) = 0 from fun hh => hh rfl)]
    exact ⟨_, _, S, kd, c, rfl, rfl, rfl, rfl, rfl, rfl, Nat.le_succ _, h⟩
  · rw [z_xhas S hp, z_mhas S hp, jx_b, jx_b, bi0, bin]
    cases hb : bt S p with
    | false => rw [if_neg ff, if_neg ff]; exact ⟨_, _, S, kd, c, rfl, rfl, rfl, rfl, rfl, rfl, Nat.le_succ _, h⟩
    | true =>
      subst h10
      obtain ⟨q, eq, q1, q2⟩ := z_remove1 h6 h7 hp
      have how : ∀ a, a < 8 → bt (S &&& (((1 : Int32) <<< (nI p &&& 31)) ^^^ -1)) a = true → rOK (ow a) (te (tm a)) := fun a ha hab => by
        rw [bt_off hp, Bool.and_eq_true] at hab; exact h5 a ha hab.1
      obtain ⟨s, es, s1, s2⟩ := z_settle (S := S &&& (((1 : Int32) <<< (nI p &&& 31)) ^^^ -1)) (o := fun p => te (tm p)) (kd := koff kd p) how q2 cm c
      rw [if_pos rfl, if_pos rfl, z_usesOf hM h2 hp hb, jx_b, z_usersOf hM h2 hp hb, jx_b]
      unfold pf_X3_remove
      rw [z_joinsFrom h6 hp, jx_b, z_joinsTo h6 hp, jx_b, eq, jx_b, es, jx_b, jx_b]
      have hoff : ∀ a, bt (S &&& (((1 : Int32) <<< (nI p &&& 31)) ^^^ -1)) a = true → bt S a = true ∧ a ≠ p := fun a hab => by
        rw [bt_off hp, Bool.and_eq_true, Bool.not_eq_true', decide_eq_false_iff_not] at hab; exact hab
      refine ⟨_, _, _, koff kd p, c + 1, rfl, rfl, rfl, rfl, rfl, rfl, Nat.le_refl _, fun i hi => ?_, fun a ha => h1 a (hoff a ha).1, fun a b ha hb2 hk => ?_, fun a ha => ?_, fun a ha => h4 a (hoff a ha).1, how, q1, q2, s1, s2, kf_up h11, fun hh => ?_, fun a ha => h13 a (hoff a ha).1, fun a b ha hb2 => ?_⟩
      · rw [bt_off hp, h8 i hi]; rfl
      · unfold koff at hk
        by_cases hh : a = p ∨ b = p
        · rw [if_pos hh] at hk; exact absurd rfl hk
        · rw [if_neg hh] at hk
          obtain ⟨t1, t2⟩ := h2 a b ha hb2 hk
          rw [bt_off hp, bt_off hp, t1, t2, decide_eq_false (fun h => hh (Or.inl h)), decide_eq_false (fun h => hh (Or.inr h))]; exact ⟨rfl, rfl⟩
      · unfold koff
        by_cases hh : a = p ∨ a = p
        · rw [if_pos hh]
        · rw [if_neg hh]; exact h3 a ha
      · dsimp only at hh; rw [s2] at hh; exact absurd hh (kf_off hc h11)
      · rw [koff_n (hoff a ha).2 (hoff b hb2).2]; exact h14 a b (hoff a ha).1 (hoff b hb2).1
theorem kind_in {y : Int32} (h1 : ¬ y < -1) (h2 : ¬ 3 < y) : ∃ d, d ≤ 4 ∧ y = nI d - 1 := by
  have e1 : (-1 : Int32).toInt = -1 := by decide
  have e3 : (3 : Int32).toInt = 3 := by decide
  rw [Int32.lt_iff_toInt_lt] at h1 h2
  refine ⟨(y.toInt + 1).toNat, by omega, ?_⟩
  apply Int32.toInt_inj.mp
  have hd : ∀ d, d < 5 → (nI d - 1).toInt = (d : Int) - 1 := by decide
  rw [hd _ (by omega)]
  omega
theorem q_join (hc : c < 1000) (hT : TR B te bs br nt nr) (h : PR B te S tm kd c un ow ki th cm ch kf bz ns nk) (x y z : Int32) : ∃ r r' kd' c', pf_X6_join ow ki th cm S ch x y z = some r ∧ pf_X7_join S nk x y z = some r' ∧ r.1 = r'.1 ∧ c' ≤ c + 1 ∧ PR B te S tm kd' c' un ow r.2.1 r.2.2.1 r.2.2.2.1 r.2.2.2.2 kf bz ns r'.2 := by
  obtain ⟨h8, h1, h2, h3, h4, h5, h6, h7, h9, h10, h11, h12, h13, h14⟩ := id h
  unfold pf_X6_join pf_X7_join
  rcases ix x 8 (by omega) with hx | ⟨p, hp, rfl⟩
  · rw [z_xhas_out S hx, z_mhas_out S hx, jx_b, jx_b, if_pos rfl, if_pos rfl]
    exact ⟨_, _, kd, c, rfl, rfl, rfl, Nat.le_succ _, h⟩
  · rw [z_xhas S hp, z_mhas S hp, jx_b, jx_b, bi0, bi0]
    cases hb : bt S p with
    | false => rw [if_neg ff, if_neg ff]; exact ⟨_, _, kd, c, rfl, rfl, rfl, Nat.le_succ _, h⟩
    | true =>
      rw [if_pos rfl, if_pos rfl]
      rcases ix y 8 (by omega) with hy | ⟨q, hq, rfl⟩
      · rw [z_xhas_out S hy, z_mhas_out S hy, jx_b, jx_b, if_pos rfl, if_pos rfl]
        exact ⟨_, _, kd, c, rfl, rfl, rfl, Nat.le_succ _, h⟩
      · rw [z_xhas S hq, z_mhas S hq, jx_b, jx_b, bi0, bi0]
        cases hb2 : bt S q with
        | false => rw [if_neg ff, if_neg ff]; exact ⟨_, _, kd, c, rfl, rfl, rfl, Nat.le_succ _, h⟩
        | true =>
          rw [if_pos rfl, if_pos rfl]
          by_cases hpq : nI p = nI q
          · rw [if_neg (show ¬ ¬ nI p = nI q from fun hh => hh hpq), if_neg (show ¬ ¬ nI p = nI q from fun hh => hh hpq)]
            exact ⟨_, _, kd, c, rfl, rfl, rfl, Nat.le_succ _, h⟩
          · have hne : p ≠ q := fun hh => hpq (by rw [hh])
            rw [if_pos hpq, if_pos hpq]
            by_cases hz1 : z < -1
            · have hw : pf_X7_within z (-1) 3 = some 0 := by unfold pf_X7_within; rw [if_pos hz1]
              rw [if_pos hz1, hw, jx_b, if_neg (show ¬ ¬ (0 : Int32) = 0 from fun hh => hh rfl)]
              exact ⟨_, _, kd, c, rfl, rfl, rfl, Nat.le_succ _, h⟩
            · rw [if_neg hz1]
              by_cases hz2 : (3 : Int32) < z
              · have hw : pf_X7_within z (-1) 3 = some 0 := by unfold pf_X7_within; rw [if_neg hz1, if_pos hz2]
                have hz3 : ¬ z ≤ 3 := fun hh => by
                  rw [Int32.le_iff_toInt_le] at hh; rw [Int32.lt_iff_toInt_lt] at hz2; omega
                rw [if_neg hz3, hw, jx_b, if_neg (show ¬ ¬ (0 : Int32) = 0 from fun hh => hh rfl)]
                exact ⟨_, _, kd, c, rfl, rfl, rfl, Nat.le_succ _, h⟩
              · have hw : pf_X7_within z (-1) 3 = some 1 := by unfold pf_X7_within; rw [if_neg hz1, if_neg hz2]
                have hz3 : z ≤ 3 := by
                  rw [Int32.lt_iff_toInt_lt] at hz2; rw [Int32.le_iff_toInt_le]; omega
                obtain ⟨d, hd, rfl⟩ := kind_in hz1 hz2
                subst h10
                obtain ⟨r, er, r1, r2⟩ := z_setJoin h6 h7 hp hq hd
                obtain ⟨s, es, s1, s2⟩ := z_settle (S := S) (o := fun p => te (tm p)) (kd := kset kd p q d) h5 r2 cm c
                rw [if_pos hz3, hw, jx_b, if_pos n1n0, z_kindOf h6 hp hq, jx_b]
                unfold pf_X3_setKind
                rw [er, jx_b, es, jx_b, jx_b, k8, pk_mul, nI_add, jx_gk _ (by omega) (by omega), jx_gk _ (by omega) (by omega), nI_clamp (by omega)]
                refine ⟨_, _, kset kd p q d, c + 1, rfl, rfl, (by dsimp only; rw [h14 p q hb hb2]), Nat.le_refl _, h8, h1, fun a b ha hb3 hk => ?_, fun a ha => ?_, h4, h5, r1, r2, s1, s2, kf_up h11, fun hh => ?_, h13, fun a b ha hb3 => ?_⟩
                · unfold kset at hk
                  by_cases hh : a = p ∧ b = q
                  · rw [hh.1, hh.2]; exact ⟨hb, hb2⟩
                  · rw [if_neg hh] at hk; exact h2 a b ha hb3 hk
                · unfold kset
                  rw [if_neg (by omega)]; exact h3 a ha
                · dsimp only at hh; rw [s2] at hh; exact absurd hh (kf_off hc h11)
                · dsimp only [kset]
                  have ha8 := S8_lt h8 ha
                  have hb8 := S8_lt h8 hb3
                  by_cases hh : a = p ∧ b = q
                  · rw [if_pos hh, hh.1, hh.2, pk_us]
                  · rw [if_neg hh, pk_un (by omega)]; exact h14 a b ha hb3
theorem q_kind (h : PR B te S tm kd c un ow ki th cm ch kf bz ns nk) (x y : Int32) : ∃ r, pf_X6_kind ki S x y = some r ∧ pf_X7_kind S nk x y = some r := by
  obtain ⟨h8, h1, h2, h3, h4, h5, h6, h7, h9, h10, h11, h12, h13, h14⟩ := h
  unfold pf_X6_kind pf_X7_kind
  rcases ix x 8 (by omega) with hx | ⟨p, hp, rfl⟩
  · rw [z_xhas_out S hx, z_mhas_out S hx, jx_b, jx_b, if_pos rfl, if_pos rfl]
    exact ⟨_, rfl, rfl⟩
  · rw [z_xhas S hp, z_mhas S hp, jx_b, jx_b, bi0, bi0]
    cases hb : bt S p with
    | false => rw [if_neg ff, if_neg ff]; exact ⟨_, rfl, rfl⟩
    | true =>
      rw [if_pos rfl, if_pos rfl]
      rcases ix y 8 (by omega) with hy | ⟨q, hq, rfl⟩
      · rw [z_xhas_out S hy, z_mhas_out S hy, jx_b, jx_b, if_pos rfl, if_pos rfl]
        exact ⟨_, rfl, rfl⟩
      · rw [z_xhas S hq, z_mhas S hq, jx_b, jx_b, bi0, bi0]
        cases hb2 : bt S q with
        | false => rw [if_neg ff, if_neg ff]; exact ⟨_, rfl, rfl⟩
        | true =>
          rw [if_pos rfl, if_pos rfl, z_kindOf h6 hp hq, jx_b, k8, pk_mul, nI_add, jx_gk _ (by omega) (by omega), nI_clamp (by omega), h14 p q hb hb2]
          exact ⟨_, rfl, rfl⟩
end LV
