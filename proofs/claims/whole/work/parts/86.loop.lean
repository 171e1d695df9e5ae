/-! the loop of the law -/
theorem law_go {L j : Nat} (h1 : 4 * j ≤ L) (hL : L ≤ 2048) (hq : ¬ Int32.ofNat L - 4 < nI (4 * j)) : 4 * j + 4 ≤ L := by
  rcases Nat.lt_or_ge L 4 with h | h
  · exfalso
    apply hq
    have hj0 : j = 0 := by omega
    subst hj0
    rcases (show L = 0 ∨ L = 1 ∨ L = 2 ∨ L = 3 by omega) with rfl | rfl | rfl | rfl <;> decide
  · rw [show Int32.ofNat L - 4 = nI (L - 4) from pk_sub (a := L) (b := 4) h] at hq
    rcases Nat.lt_or_ge (L - 4) (4 * j) with h3 | h3
    · exact absurd (nI_lt h3 (by omega)) hq
    · omega
set_option maxHeartbeats 4000000 in
set_option maxRecDepth 100000 in
theorem law_tail {p : Program} {l : Launch} {e : Env} {s : State} {m : MethodId} {below : List Frame} {meth : Method} {c : Code} {D : va_G} {cI cL : ClassId} {a g : Nat → Nat} {b L : Nat} {xs : Nat → Int32} (C0 : lw_At p s m meth c b L xs) {k j : Nat} (K : law_G p l e s m below meth c D cI cL a g b 18 k (nI (4 * (j + 1)))) : law_G p l e s m below meth c D cI cL a g b 632 k (nI (4 * j)) := by
  obtain ⟨hx, hb, hr, hml, hown, hts, hX, hbl, hlocks, hgv⟩ := C0
  have hA : ∀ q : Nat, s.heap.size ≤ q → (fun q : Nat => s.heap.size ≤ q) q := fun _ h => h
  have hbA : ¬ (fun q : Nat => s.heap.size ≤ q) b := Nat.not_le.mpr hbl
  intro pl cd bs br un ow ki th cm tr tl ch jl bz rw kf nl np nt nr nh ns nk ne nw na nf nc ng nx H locs ls hR hP hD hS hl
  refine lv_iinc (v := nI (4 * (j + 1))) (lv' := [(3, .int (nI (4 * (j + 1)))), (2, .ref (g 0)), (1, .ref (a 0)), (0, .ref b)]) hx hb dL_law_632 hl (k := 0) rfl (show nI (4 * j) + nI 4 = nI (4 * (j + 1)) from nI_add (4 * j) 4) (by decide) rfl (fun ls hl => ?_)
  refine lv_goto (tgt := 18) hx hb dL_law_635 (by decide) ?_
  exact K pl cd bs br un ow ki th cm tr tl ch jl bz rw kf nl np nt nr nh ns nk ne nw na nf nc ng nx H locs ls hR hP hD hS hl
set_option maxHeartbeats 4000000 in
set_option maxRecDepth 100000 in
theorem law_loop {p : Program} {l : Launch} {e : Env} {s : State} {m : MethodId} {below : List Frame} {meth : Method} {c : Code} {D : va_G} {cI cL : ClassId} {a g : Nat → Nat} {b L : Nat} {xs : Nat → Int32} (hL : L ≤ 2048) (C0 : lw_At p s m meth c b L xs) (hK : va_K D vwCl [(cI, .int), (cL, .long)] s) (hN : jx_N s) : ∀ (n j : Nat), 4 * j ≤ L → L + 4 ≤ 4 * j + 4 * n → law_G p l e s m below meth c D cI cL a g b 18 j (nI (4 * j)) := by
  intro n
  induction n with
  | zero => intro j h1 h2; exact absurd h2 (by omega)
  | succ n ih =>
    intro j h1 h2
    have C1 := C0
    obtain ⟨hx, hb, hr, hml, hown, hts, hX, hbl, hlocks, hgv⟩ := C0
    have hA : ∀ q : Nat, s.heap.size ≤ q → (fun q : Nat => s.heap.size ≤ q) q := fun _ h => h
    have hbA : ¬ (fun q : Nat => s.heap.size ≤ q) b := Nat.not_le.mpr hbl
    intro pl cd bs br un ow ki th cm tr tl ch jl bz rw kf nl np nt nr nh ns nk ne nw na nf nc ng nx H locs ls hR hP hD hS hl
    refine lv_iload_n hx hb dL_law_18 rfl (lv_at hl 0 rfl) ?_
    refine lv_aload_n hx hb dL_law_19 rfl (lv_at hl 3 rfl) ?_
    refine va_slen hx hb hX hbl hbA hS dL_law_20 ?_
    refine lv_iconst (v := 4) hx hb dL_law_21 (by decide) ?_
    refine lv_isub hx hb dL_law_22 ?_
    refine lv_icmp_gt (tgt := 638) hx hb dL_law_23 (by decide) (fun _ => ?_) (fun hq => ?_)
    · refine lv_iconst (v := 1) hx hb dL_law_638 (by decide) ?_
      refine va_forget (fun q hq => hS.2.2 q hq) ?_
      exact lw_ret hx hb hr hlocks dL_law_639
    · have hj : 4 * j + 4 ≤ L := law_go h1 hL hq
      refine lv_aload_n hx hb dL_law_26 rfl (lv_at hl 3 rfl) ?_
      refine lv_iload_n hx hb dL_law_27 rfl (lv_at hl 0 rfl) ?_
      refine va_sld hx hb hX hbl hbA hS (vp_in_nI (show 4 * j < L by omega) (by omega)) dL_law_28 ?_
      refine lv_bipush (v := 31) hx hb dL_law_29 (by decide) ?_
      refine lv_iand hx hb dL_law_31 ?_
      have K : law_G p l e s m below meth c D cI cL a g b 632 (j + 1) (nI (4 * j)) := law_tail C1 (ih (j + 1) (by omega) (by omega))
      generalize xs (nI (4 * j)).toNatClampNeg &&& 31 = x
      by_cases q0 : x = 0
      · refine lv_tableIn (off := 92) (tgt := 124) hx hb dL_law_32 (by rw [q0]; decide) (by rw [q0]; decide) (by rw [q0]; decide) (by decide) ?_
        exact lc_letter hL C1 hK hN (by omega) hj K pl cd bs br un ow ki th cm tr tl ch jl bz rw kf nl np nt nr nh ns nk ne nw na nf nc ng nx H locs ls hR hP hD hS hl
      by_cases q1 : x = 1
      · refine lv_tableIn (off := 115) (tgt := 147) hx hb dL_law_32 (by rw [q1]; decide) (by rw [q1]; decide) (by rw [q1]; decide) (by decide) ?_
        exact lc_blank hL C1 hK hN (by omega) hj K pl cd bs br un ow ki th cm tr tl ch jl bz rw kf nl np nt nr nh ns nk ne nw na nf nc ng nx H locs ls hR hP hD hS hl
      by_cases q2 : x = 2
      · refine lv_tableIn (off := 128) (tgt := 160) hx hb dL_law_32 (by rw [q2]; decide) (by rw [q2]; decide) (by rw [q2]; decide) (by decide) ?_
        exact lc_fault hL C1 hK hN (by omega) hj K pl cd bs br un ow ki th cm tr tl ch jl bz rw kf nl np nt nr nh ns nk ne nw na nf nc ng nx H locs ls hR hP hD hS hl
      by_cases q3 : x = 3
      · refine lv_tableIn (off := 141) (tgt := 173) hx hb dL_law_32 (by rw [q3]; decide) (by rw [q3]; decide) (by rw [q3]; decide) (by decide) ?_
        exact lc_terms hL C1 hK hN (by omega) hj K pl cd bs br un ow ki th cm tr tl ch jl bz rw kf nl np nt nr nh ns nk ne nw na nf nc ng nx H locs ls hR hP hD hS hl
      by_cases q4 : x = 4
      · refine lv_tableIn (off := 154) (tgt := 186) hx hb dL_law_32 (by rw [q4]; decide) (by rw [q4]; decide) (by rw [q4]; decide) (by decide) ?_
        exact lc_reach hL C1 hK hN (by omega) hj K pl cd bs br un ow ki th cm tr tl ch jl bz rw kf nl np nt nr nh ns nk ne nw na nf nc ng nx H locs ls hR hP hD hS hl
      by_cases q5 : x = 5
      · refine lv_tableIn (off := 187) (tgt := 219) hx hb dL_law_32 (by rw [q5]; decide) (by rw [q5]; decide) (by rw [q5]; decide) (by decide) ?_
        exact lc_two hL C1 hK hN (by omega) hj K pl cd bs br un ow ki th cm tr tl ch jl bz rw kf nl np nt nr nh ns nk ne nw na nf nc ng nx H locs ls hR hP hD hS hl
      by_cases q6 : x = 6
      · refine lv_tableIn (off := 230) (tgt := 262) hx hb dL_law_32 (by rw [q6]; decide) (by rw [q6]; decide) (by rw [q6]; decide) (by decide) ?_
        exact lc_part hL C1 hK hN (by omega) hj K pl cd bs br un ow ki th cm tr tl ch jl bz rw kf nl np nt nr nh ns nk ne nw na nf nc ng nx H locs ls hR hP hD hS hl
      by_cases q7 : x = 7
      · refine lv_tableIn (off := 253) (tgt := 285) hx hb dL_law_32 (by rw [q7]; decide) (by rw [q7]; decide) (by rw [q7]; decide) (by decide) ?_
        exact lc_give hL C1 hK hN (by omega) hj K pl cd bs br un ow ki th cm tr tl ch jl bz rw kf nl np nt nr nh ns nk ne nw na nf nc ng nx H locs ls hR hP hD hS hl
      by_cases q8 : x = 8
      · refine lv_tableIn (off := 286) (tgt := 318) hx hb dL_law_32 (by rw [q8]; decide) (by rw [q8]; decide) (by rw [q8]; decide) (by decide) ?_
        exact lc_leave hL C1 hK hN (by omega) hj K pl cd bs br un ow ki th cm tr tl ch jl bz rw kf nl np nt nr nh ns nk ne nw na nf nc ng nx H locs ls hR hP hD hS hl
      by_cases q9 : x = 9
      · refine lv_tableIn (off := 309) (tgt := 341) hx hb dL_law_32 (by rw [q9]; decide) (by rw [q9]; decide) (by rw [q9]; decide) (by decide) ?_
        exact lc_join hL C1 hK hN (by omega) hj K pl cd bs br un ow ki th cm tr tl ch jl bz rw kf nl np nt nr nh ns nk ne nw na nf nc ng nx H locs ls hR hP hD hS hl
      by_cases q10 : x = 10
      · refine lv_tableIn (off := 352) (tgt := 384) hx hb dL_law_32 (by rw [q10]; decide) (by rw [q10]; decide) (by rw [q10]; decide) (by decide) ?_
        exact lc_kind hL C1 hK hN (by omega) hj K pl cd bs br un ow ki th cm tr tl ch jl bz rw kf nl np nt nr nh ns nk ne nw na nf nc ng nx H locs ls hR hP hD hS hl
      by_cases q11 : x = 11
      · refine lv_tableIn (off := 385) (tgt := 417) hx hb dL_law_32 (by rw [q11]; decide) (by rw [q11]; decide) (by rw [q11]; decide) (by decide) ?_
        exact lc_of hL C1 hK hN (by omega) hj K pl cd bs br un ow ki th cm tr tl ch jl bz rw kf nl np nt nr nh ns nk ne nw na nf nc ng nx H locs ls hR hP hD hS hl
      by_cases q12 : x = 12
      · refine lv_tableIn (off := 418) (tgt := 450) hx hb dL_law_32 (by rw [q12]; decide) (by rw [q12]; decide) (by rw [q12]; decide) (by decide) ?_
        exact lc_held hL C1 hK hN (by omega) hj K pl cd bs br un ow ki th cm tr tl ch jl bz rw kf nl np nt nr nh ns nk ne nw na nf nc ng nx H locs ls hR hP hD hS hl
      by_cases q13 : x = 13
      · refine lv_tableIn (off := 451) (tgt := 483) hx hb dL_law_32 (by rw [q13]; decide) (by rw [q13]; decide) (by rw [q13]; decide) (by decide) ?_
        exact lc_way hL C1 hK hN (by omega) hj K pl cd bs br un ow ki th cm tr tl ch jl bz rw kf nl np nt nr nh ns nk ne nw na nf nc ng nx H locs ls hR hP hD hS hl
      by_cases q14 : x = 14
      · refine lv_tableIn (off := 494) (tgt := 526) hx hb dL_law_32 (by rw [q14]; decide) (by rw [q14]; decide) (by rw [q14]; decide) (by decide) ?_
        exact lc_clash hL C1 hK hN (by omega) hj K pl cd bs br un ow ki th cm tr tl ch jl bz rw kf nl np nt nr nh ns nk ne nw na nf nc ng nx H locs ls hR hP hD hS hl
      by_cases q15 : x = 15
      · refine lv_tableIn (off := 517) (tgt := 549) hx hb dL_law_32 (by rw [q15]; decide) (by rw [q15]; decide) (by rw [q15]; decide) (by decide) ?_
        exact lc_cause hL C1 hK hN (by omega) hj K pl cd bs br un ow ki th cm tr tl ch jl bz rw kf nl np nt nr nh ns nk ne nw na nf nc ng nx H locs ls hR hP hD hS hl
      by_cases q16 : x = 16
      · refine lv_tableIn (off := 550) (tgt := 582) hx hb dL_law_32 (by rw [q16]; decide) (by rw [q16]; decide) (by rw [q16]; decide) (by decide) ?_
        exact lc_cure hL C1 hK hN (by omega) hj K pl cd bs br un ow ki th cm tr tl ch jl bz rw kf nl np nt nr nh ns nk ne nw na nf nc ng nx H locs ls hR hP hD hS hl
      by_cases q17 : x = 17
      · refine lv_tableIn (off := 563) (tgt := 595) hx hb dL_law_32 (by rw [q17]; decide) (by rw [q17]; decide) (by rw [q17]; decide) (by decide) ?_
        exact lc_count hL C1 hK hN (by omega) hj K pl cd bs br un ow ki th cm tr tl ch jl bz rw kf nl np nt nr nh ns nk ne nw na nf nc ng nx H locs ls hR hP hD hS hl
      by_cases q18 : x = 18
      · refine lv_tableIn (off := 586) (tgt := 618) hx hb dL_law_32 (by rw [q18]; decide) (by rw [q18]; decide) (by rw [q18]; decide) (by decide) ?_
        exact lc_digest hL C1 hK hN (by omega) hj K pl cd bs br un ow ki th cm tr tl ch jl bz rw kf nl np nt nr nh ns nk ne nw na nf nc ng nx H locs ls hR hP hD hS hl
      refine lv_tableOut (tgt := 632) hx hb dL_law_32 (jx_sw18 x q0 q1 q2 q3 q4 q5 q6 q7 q8 q9 q10 q11 q12 q13 q14 q15 q16 q17 q18) (by decide) ?_
      exact K pl cd bs br un ow ki th cm tr tl ch jl bz rw kf nl np nt nr nh ns nk ne nw na nf nc ng nx H locs ls (LR.up hR) hP hD hS hl
