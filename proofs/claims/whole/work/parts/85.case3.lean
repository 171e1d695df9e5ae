/-! the calls of the law, one by one -/
set_option maxHeartbeats 4000000 in
set_option maxRecDepth 100000 in
theorem lc_way {p : Program} {l : Launch} {e : Env} {s : State} {m : MethodId} {below : List Frame} {meth : Method} {c : Code} {D : va_G} {cI cL : ClassId} {a g : Nat → Nat} {b L : Nat} {xs : Nat → Int32} (hL : L ≤ 2048) (C0 : lw_At p s m meth c b L xs) (hK : va_K D vwCl [(cI, .int), (cL, .long)] s) (hN : jx_N s) {k i : Nat} (hk : k < 999) (hi : i + 4 ≤ L) (K : law_G p l e s m below meth c D cI cL a g b 632 (k + 1) (nI i)) : law_G p l e s m below meth c D cI cL a g b 483 k (nI i) := by
  obtain ⟨hx, hb, hr, hml, hown, hts, hX, hbl, hlocks, hgv⟩ := C0
  have hA : ∀ q : Nat, s.heap.size ≤ q → (fun q : Nat => s.heap.size ≤ q) q := fun _ h => h
  have hbA : ¬ (fun q : Nat => s.heap.size ≤ q) b := Nat.not_le.mpr hbl
  intro pl cd bs br un ow ki th cm tr tl ch jl bz rw kf nl np nt nr nh ns nk ne nw na nf nc ng nx H locs ls hR hP hD hS hl
  have hi1 : vp_in (nI i + 1) L := by rw [show nI i + 1 = nI (i + 1) from nI_add i 1]; exact vp_in_nI (by omega) (by omega)
  have hi2 : vp_in (nI i + 2) L := by rw [show nI i + 2 = nI (i + 2) from nI_add i 2]; exact vp_in_nI (by omega) (by omega)
  have hi3 : vp_in (nI i + 3) L := by rw [show nI i + 3 = nI (i + 3) from nI_add i 3]; exact vp_in_nI (by omega) (by omega)
  obtain ⟨r, r', e1, e2, e3, hR'⟩ := s_way hk hR jl rw nw na nf nc ng nx (xs (nI i + 1).toNatClampNeg) (xs (nI i + 2).toNatClampNeg) (xs (nI i + 3).toNatClampNeg)
  refine lv_aload_n hx hb dL_law_483 rfl (lv_at hl 2 rfl) ?_
  refine lv_aload_n hx hb dL_law_484 rfl (lv_at hl 3 rfl) ?_
  refine lv_iload_n hx hb dL_law_485 rfl (lv_at hl 0 rfl) ?_
  refine lv_iconst (v := 1) hx hb dL_law_486 (by decide) ?_
  refine lv_iadd hx hb dL_law_487 ?_
  refine va_sld hx hb hX hbl hbA hS hi1 dL_law_488 ?_
  refine lv_aload_n hx hb dL_law_489 rfl (lv_at hl 3 rfl) ?_
  refine lv_iload_n hx hb dL_law_490 rfl (lv_at hl 0 rfl) ?_
  refine lv_iconst (v := 2) hx hb dL_law_491 (by decide) ?_
  refine lv_iadd hx hb dL_law_492 ?_
  refine va_sld hx hb hX hbl hbA hS hi2 dL_law_493 ?_
  refine lv_aload_n hx hb dL_law_494 rfl (lv_at hl 3 rfl) ?_
  refine lv_iload_n hx hb dL_law_495 rfl (lv_at hl 0 rfl) ?_
  refine lv_iconst (v := 3) hx hb dL_law_496 (by decide) ?_
  refine lv_iadd hx hb dL_law_497 ?_
  refine va_sld hx hb hX hbl hbA hS hi3 dL_law_498 ?_
  refine jx_ki (wr := wM g cI cL nl np nt nr nh ns nk ne nw na nf nc ng nx) (ws2 := wX a cI cL pl cd bs br un ow ki th cm tr tl ch r.2 bz rw kf ++ wM g cI cL nl np nt nr nh ns nk ne nw na nf nc ng nx) (jx_runV (As := [.int (xs (nI i + 1).toNatClampNeg), .int (xs (nI i + 2).toNatClampNeg), .int (xs (nI i + 3).toNatClampNeg)]) (rest := []) ⟨hx, hb, hml, hown, hts⟩ (c_X6_way l D a cI cL pl cd bs br un ow ki th cm tr tl ch jl bz rw kf (xs (nI i + 1).toNatClampNeg) (xs (nI i + 2).toNatClampNeg) (xs (nI i + 3).toNatClampNeg) r e1 _) (cwV 3 hts gw_X6_way rfl rfl rfl (by decide +kernel) ⟨Nat.le_of_ble_eq_true rfl, Nat.le_of_ble_eq_true rfl⟩) hK hN hP hD [0, 1, 2, 3, 4, 5, 6, 7, 8, 9, 10, 11, 12, 13, 14, 15] rfl (by decide) 0 5 rfl rfl rfl hl.1 rfl (Nat.le_of_ble_eq_true rfl) dL_law_499 ⟨Nat.le_of_ble_eq_true rfl, Nat.le_of_ble_eq_true rfl⟩) hP hD hS hA [0, 1, 2, 3, 4, 5, 6, 7, 8, 9, 10, 11, 12, 13, 14, 15] [16, 17, 18, 19, 20, 21, 22, 23] [8, 9, 10, 11, 12, 13, 14, 15, 16, 17, 18, 19, 20, 21, 22, 23, 0, 1, 2, 3, 4, 5, 6, 7] rfl rfl (by decide) (by decide) rfl (by decide) (fun H locs hP hD hS => ?_)
  refine lv_aload_n hx hb dL_law_502 rfl (lv_at hl 1 rfl) ?_
  refine lv_aload_n hx hb dL_law_503 rfl (lv_at hl 3 rfl) ?_
  refine lv_iload_n hx hb dL_law_504 rfl (lv_at hl 0 rfl) ?_
  refine lv_iconst (v := 1) hx hb dL_law_505 (by decide) ?_
  refine lv_iadd hx hb dL_law_506 ?_
  refine va_sld hx hb hX hbl hbA hS hi1 dL_law_507 ?_
  refine lv_aload_n hx hb dL_law_508 rfl (lv_at hl 3 rfl) ?_
  refine lv_iload_n hx hb dL_law_509 rfl (lv_at hl 0 rfl) ?_
  refine lv_iconst (v := 2) hx hb dL_law_510 (by decide) ?_
  refine lv_iadd hx hb dL_law_511 ?_
  refine va_sld hx hb hX hbl hbA hS hi2 dL_law_512 ?_
  refine lv_aload_n hx hb dL_law_513 rfl (lv_at hl 3 rfl) ?_
  refine lv_iload_n hx hb dL_law_514 rfl (lv_at hl 0 rfl) ?_
  refine lv_iconst (v := 3) hx hb dL_law_515 (by decide) ?_
  refine lv_iadd hx hb dL_law_516 ?_
  refine va_sld hx hb hX hbl hbA hS hi3 dL_law_517 ?_
  refine jx_ki (wr := wX a cI cL pl cd bs br un ow ki th cm tr tl ch r.2 bz rw kf) (ws2 := wX a cI cL pl cd bs br un ow ki th cm tr tl ch r.2 bz rw kf ++ wM g cI cL nl np nt nr nh ns nk ne r'.2.1 r'.2.2.1 r'.2.2.2 nc ng nx) (jx_runV (As := [.int (xs (nI i + 1).toNatClampNeg), .int (xs (nI i + 2).toNatClampNeg), .int (xs (nI i + 3).toNatClampNeg)]) (rest := [.int r.1]) ⟨hx, hb, hml, hown, hts⟩ (c_X7_way l D g cI cL nl np nt nr nh ns nk ne nw na nf nc ng nx (xs (nI i + 1).toNatClampNeg) (xs (nI i + 2).toNatClampNeg) (xs (nI i + 3).toNatClampNeg) r' e2 _) (cwV 3 hts gw_X7_way rfl rfl rfl (by decide +kernel) ⟨Nat.le_of_ble_eq_true rfl, Nat.le_of_ble_eq_true rfl⟩) hK hN hP hD [16, 17, 18, 19, 20, 21, 22, 23] rfl (by decide) 16 6 rfl rfl rfl hl.1 rfl (Nat.le_of_ble_eq_true rfl) dL_law_518 ⟨Nat.le_of_ble_eq_true rfl, Nat.le_of_ble_eq_true rfl⟩) hP hD hS hA [16, 17, 18, 19, 20, 21, 22, 23] [0, 1, 2, 3, 4, 5, 6, 7, 8, 9, 10, 11, 12, 13, 14, 15] [0, 1, 2, 3, 4, 5, 6, 7, 8, 9, 10, 11, 12, 13, 14, 15, 16, 17, 18, 19, 20, 21, 22, 23] rfl rfl (by decide) (by decide) rfl (by decide) (fun H locs hP hD hS => ?_)
  refine lv_icmp_eq (tgt := 632) hx hb dL_law_521 (by decide) (fun _ => ?_) (fun hq => absurd e3 hq)
  exact K pl cd bs br un ow ki th cm tr tl ch r.2 bz rw kf nl np nt nr nh ns nk ne r'.2.1 r'.2.2.1 r'.2.2.2 nc ng nx H locs ls hR' hP hD hS hl
set_option maxHeartbeats 4000000 in
set_option maxRecDepth 100000 in
theorem lc_clash {p : Program} {l : Launch} {e : Env} {s : State} {m : MethodId} {below : List Frame} {meth : Method} {c : Code} {D : va_G} {cI cL : ClassId} {a g : Nat → Nat} {b L : Nat} {xs : Nat → Int32} (hL : L ≤ 2048) (C0 : lw_At p s m meth c b L xs) (hK : va_K D vwCl [(cI, .int), (cL, .long)] s) (hN : jx_N s) {k i : Nat} (hk : k < 999) (hi : i + 4 ≤ L) (K : law_G p l e s m below meth c D cI cL a g b 632 (k + 1) (nI i)) : law_G p l e s m below meth c D cI cL a g b 526 k (nI i) := by
  obtain ⟨hx, hb, hr, hml, hown, hts, hX, hbl, hlocks, hgv⟩ := C0
  have hA : ∀ q : Nat, s.heap.size ≤ q → (fun q : Nat => s.heap.size ≤ q) q := fun _ h => h
  have hbA : ¬ (fun q : Nat => s.heap.size ≤ q) b := Nat.not_le.mpr hbl
  intro pl cd bs br un ow ki th cm tr tl ch jl bz rw kf nl np nt nr nh ns nk ne nw na nf nc ng nx H locs ls hR hP hD hS hl
  have hi1 : vp_in (nI i + 1) L := by rw [show nI i + 1 = nI (i + 1) from nI_add i 1]; exact vp_in_nI (by omega) (by omega)
  obtain ⟨r, r', e1, e2, e3, hR'⟩ := s_clash hk hR jl rw nw na nf nc ng nx (xs (nI i + 1).toNatClampNeg)
  refine lv_aload_n hx hb dL_law_526 rfl (lv_at hl 2 rfl) ?_
  refine lv_aload_n hx hb dL_law_527 rfl (lv_at hl 3 rfl) ?_
  refine lv_iload_n hx hb dL_law_528 rfl (lv_at hl 0 rfl) ?_
  refine lv_iconst (v := 1) hx hb dL_law_529 (by decide) ?_
  refine lv_iadd hx hb dL_law_530 ?_
  refine va_sld hx hb hX hbl hbA hS hi1 dL_law_531 ?_
  refine jx_ki (wr := wM g cI cL nl np nt nr nh ns nk ne nw na nf nc ng nx) (ws2 := wX a cI cL pl cd bs br un ow ki th cm tr tl ch jl bz rw kf ++ wM g cI cL nl np nt nr nh ns nk ne nw na nf nc ng nx) (jx_runV (As := [.int (xs (nI i + 1).toNatClampNeg)]) (rest := []) ⟨hx, hb, hml, hown, hts⟩ (c_X6_clash l D a cI cL pl cd bs br un ow ki th cm tr tl ch jl bz rw kf (xs (nI i + 1).toNatClampNeg) r e1 _) (cwV 1 hts gw_X6_clash rfl rfl rfl (by decide +kernel) ⟨Nat.le_of_ble_eq_true rfl, Nat.le_of_ble_eq_true rfl⟩) hK hN hP hD [0, 1, 2, 3, 4, 5, 6, 7, 8, 9, 10, 11, 12, 13, 14, 15] rfl (by decide) 0 5 rfl rfl rfl hl.1 rfl (Nat.le_of_ble_eq_true rfl) dL_law_532 ⟨Nat.le_of_ble_eq_true rfl, Nat.le_of_ble_eq_true rfl⟩) hP hD hS hA [0, 1, 2, 3, 4, 5, 6, 7, 8, 9, 10, 11, 12, 13, 14, 15] [16, 17, 18, 19, 20, 21, 22, 23] [8, 9, 10, 11, 12, 13, 14, 15, 16, 17, 18, 19, 20, 21, 22, 23, 0, 1, 2, 3, 4, 5, 6, 7] rfl rfl (by decide) (by decide) rfl (by decide) (fun H locs hP hD hS => ?_)
  refine lv_aload_n hx hb dL_law_535 rfl (lv_at hl 1 rfl) ?_
  refine lv_aload_n hx hb dL_law_536 rfl (lv_at hl 3 rfl) ?_
  refine lv_iload_n hx hb dL_law_537 rfl (lv_at hl 0 rfl) ?_
  refine lv_iconst (v := 1) hx hb dL_law_538 (by decide) ?_
  refine lv_iadd hx hb dL_law_539 ?_
  refine va_sld hx hb hX hbl hbA hS hi1 dL_law_540 ?_
  refine jx_ki (wr := wX a cI cL pl cd bs br un ow ki th cm tr tl ch jl bz rw kf) (ws2 := wX a cI cL pl cd bs br un ow ki th cm tr tl ch jl bz rw kf ++ wM g cI cL nl np nt nr nh ns nk ne nw na nf r'.2.1 r'.2.2 nx) (jx_runV (As := [.int (xs (nI i + 1).toNatClampNeg)]) (rest := [.int r]) ⟨hx, hb, hml, hown, hts⟩ (c_X7_clash l D g cI cL nl np nt nr nh ns nk ne nw na nf nc ng nx (xs (nI i + 1).toNatClampNeg) r' e2 _) (cwV 1 hts gw_X7_clash rfl rfl rfl (by decide +kernel) ⟨Nat.le_of_ble_eq_true rfl, Nat.le_of_ble_eq_true rfl⟩) hK hN hP hD [16, 17, 18, 19, 20, 21, 22, 23] rfl (by decide) 16 6 rfl rfl rfl hl.1 rfl (Nat.le_of_ble_eq_true rfl) dL_law_541 ⟨Nat.le_of_ble_eq_true rfl, Nat.le_of_ble_eq_true rfl⟩) hP hD hS hA [16, 17, 18, 19, 20, 21, 22, 23] [0, 1, 2, 3, 4, 5, 6, 7, 8, 9, 10, 11, 12, 13, 14, 15] [0, 1, 2, 3, 4, 5, 6, 7, 8, 9, 10, 11, 12, 13, 14, 15, 16, 17, 18, 19, 20, 21, 22, 23] rfl rfl (by decide) (by decide) rfl (by decide) (fun H locs hP hD hS => ?_)
  refine lv_icmp_eq (tgt := 632) hx hb dL_law_544 (by decide) (fun _ => ?_) (fun hq => absurd e3 hq)
  exact K pl cd bs br un ow ki th cm tr tl ch jl bz rw kf nl np nt nr nh ns nk ne nw na nf r'.2.1 r'.2.2 nx H locs ls hR' hP hD hS hl
set_option maxHeartbeats 4000000 in
set_option maxRecDepth 100000 in
theorem lc_cause {p : Program} {l : Launch} {e : Env} {s : State} {m : MethodId} {below : List Frame} {meth : Method} {c : Code} {D : va_G} {cI cL : ClassId} {a g : Nat → Nat} {b L : Nat} {xs : Nat → Int32} (hL : L ≤ 2048) (C0 : lw_At p s m meth c b L xs) (hK : va_K D vwCl [(cI, .int), (cL, .long)] s) (hN : jx_N s) {k i : Nat} (hk : k < 999) (hi : i + 4 ≤ L) (K : law_G p l e s m below meth c D cI cL a g b 632 (k + 1) (nI i)) : law_G p l e s m below meth c D cI cL a g b 549 k (nI i) := by
  obtain ⟨hx, hb, hr, hml, hown, hts, hX, hbl, hlocks, hgv⟩ := C0
  have hA : ∀ q : Nat, s.heap.size ≤ q → (fun q : Nat => s.heap.size ≤ q) q := fun _ h => h
  have hbA : ¬ (fun q : Nat => s.heap.size ≤ q) b := Nat.not_le.mpr hbl
  intro pl cd bs br un ow ki th cm tr tl ch jl bz rw kf nl np nt nr nh ns nk ne nw na nf nc ng nx H locs ls hR hP hD hS hl
  have hi1 : vp_in (nI i + 1) L := by rw [show nI i + 1 = nI (i + 1) from nI_add i 1]; exact vp_in_nI (by omega) (by omega)
  have hi2 : vp_in (nI i + 2) L := by rw [show nI i + 2 = nI (i + 2) from nI_add i 2]; exact vp_in_nI (by omega) (by omega)
  obtain ⟨r, r', e1, e2, e3, hR'⟩ := s_cause hk hR jl rw nw na nf nc ng nx (xs (nI i + 1).toNatClampNeg) (xs (nI i + 2).toNatClampNeg)
  refine lv_aload_n hx hb dL_law_549 rfl (lv_at hl 2 rfl) ?_
  refine lv_aload_n hx hb dL_law_550 rfl (lv_at hl 3 rfl) ?_
  refine lv_iload_n hx hb dL_law_551 rfl (lv_at hl 0 rfl) ?_
  refine lv_iconst (v := 1) hx hb dL_law_552 (by decide) ?_
  refine lv_iadd hx hb dL_law_553 ?_
  refine va_sld hx hb hX hbl hbA hS hi1 dL_law_554 ?_
  refine lv_aload_n hx hb dL_law_555 rfl (lv_at hl 3 rfl) ?_
  refine lv_iload_n hx hb dL_law_556 rfl (lv_at hl 0 rfl) ?_
  refine lv_iconst (v := 2) hx hb dL_law_557 (by decide) ?_
  refine lv_iadd hx hb dL_law_558 ?_
  refine va_sld hx hb hX hbl hbA hS hi2 dL_law_559 ?_
  refine jx_ki (wr := wM g cI cL nl np nt nr nh ns nk ne nw na nf nc ng nx) (ws2 := wX a cI cL pl cd bs br un ow ki th cm tr tl ch jl r.2.1 r.2.2.1 r.2.2.2 ++ wM g cI cL nl np nt nr nh ns nk ne nw na nf nc ng nx) (jx_runV (As := [.int (xs (nI i + 1).toNatClampNeg), .int (xs (nI i + 2).toNatClampNeg)]) (rest := []) ⟨hx, hb, hml, hown, hts⟩ (c_X6_cause l D a cI cL pl cd bs br un ow ki th cm tr tl ch jl bz rw kf (xs (nI i + 1).toNatClampNeg) (xs (nI i + 2).toNatClampNeg) r e1 _) (cwV 2 hts gw_X6_cause rfl rfl rfl (by decide +kernel) ⟨Nat.le_of_ble_eq_true rfl, Nat.le_of_ble_eq_true rfl⟩) hK hN hP hD [0, 1, 2, 3, 4, 5, 6, 7, 8, 9, 10, 11, 12, 13, 14, 15] rfl (by decide) 0 5 rfl rfl rfl hl.1 rfl (Nat.le_of_ble_eq_true rfl) dL_law_560 ⟨Nat.le_of_ble_eq_true rfl, Nat.le_of_ble_eq_true rfl⟩) hP hD hS hA [0, 1, 2, 3, 4, 5, 6, 7, 8, 9, 10, 11, 12, 13, 14, 15] [16, 17, 18, 19, 20, 21, 22, 23] [8, 9, 10, 11, 12, 13, 14, 15, 16, 17, 18, 19, 20, 21, 22, 23, 0, 1, 2, 3, 4, 5, 6, 7] rfl rfl (by decide) (by decide) rfl (by decide) (fun H locs hP hD hS => ?_)
  refine lv_aload_n hx hb dL_law_563 rfl (lv_at hl 1 rfl) ?_
  refine lv_aload_n hx hb dL_law_564 rfl (lv_at hl 3 rfl) ?_
  refine lv_iload_n hx hb dL_law_565 rfl (lv_at hl 0 rfl) ?_
  refine lv_iconst (v := 1) hx hb dL_law_566 (by decide) ?_
  refine lv_iadd hx hb dL_law_567 ?_
  refine va_sld hx hb hX hbl hbA hS hi1 dL_law_568 ?_
  refine lv_aload_n hx hb dL_law_569 rfl (lv_at hl 3 rfl) ?_
  refine lv_iload_n hx hb dL_law_570 rfl (lv_at hl 0 rfl) ?_
  refine lv_iconst (v := 2) hx hb dL_law_571 (by decide) ?_
  refine lv_iadd hx hb dL_law_572 ?_
  refine va_sld hx hb hX hbl hbA hS hi2 dL_law_573 ?_
  refine jx_ki (wr := wX a cI cL pl cd bs br un ow ki th cm tr tl ch jl r.2.1 r.2.2.1 r.2.2.2) (ws2 := wX a cI cL pl cd bs br un ow ki th cm tr tl ch jl r.2.1 r.2.2.1 r.2.2.2 ++ wM g cI cL nl np nt nr nh ns nk ne nw na nf nc ng nx) (jx_runV (As := [.int (xs (nI i + 1).toNatClampNeg), .int (xs (nI i + 2).toNatClampNeg)]) (rest := [.int r.1]) ⟨hx, hb, hml, hown, hts⟩ (c_X7_cause l D g cI cL nl np nt nr nh ns nk ne nw na nf nc ng nx (xs (nI i + 1).toNatClampNeg) (xs (nI i + 2).toNatClampNeg) r' e2 _) (cwV 2 hts gw_X7_cause rfl rfl rfl (by decide +kernel) ⟨Nat.le_of_ble_eq_true rfl, Nat.le_of_ble_eq_true rfl⟩) hK hN hP hD [16, 17, 18, 19, 20, 21, 22, 23] rfl (by decide) 16 6 rfl rfl rfl hl.1 rfl (Nat.le_of_ble_eq_true rfl) dL_law_574 ⟨Nat.le_of_ble_eq_true rfl, Nat.le_of_ble_eq_true rfl⟩) hP hD hS hA [16, 17, 18, 19, 20, 21, 22, 23] [0, 1, 2, 3, 4, 5, 6, 7, 8, 9, 10, 11, 12, 13, 14, 15] [0, 1, 2, 3, 4, 5, 6, 7, 8, 9, 10, 11, 12, 13, 14, 15, 16, 17, 18, 19, 20, 21, 22, 23] rfl rfl (by decide) (by decide) rfl (by decide) (fun H locs hP hD hS => ?_)
  refine lv_icmp_eq (tgt := 632) hx hb dL_law_577 (by decide) (fun _ => ?_) (fun hq => absurd e3 hq)
  exact K pl cd bs br un ow ki th cm tr tl ch jl r.2.1 r.2.2.1 r.2.2.2 nl np nt nr nh ns nk ne nw na nf nc ng nx H locs ls hR' hP hD hS hl
set_option maxHeartbeats 4000000 in
set_option maxRecDepth 100000 in
theorem lc_cure {p : Program} {l : Launch} {e : Env} {s : State} {m : MethodId} {below : List Frame} {meth : Method} {c : Code} {D : va_G} {cI cL : ClassId} {a g : Nat → Nat} {b L : Nat} {xs : Nat → Int32} (hL : L ≤ 2048) (C0 : lw_At p s m meth c b L xs) (hK : va_K D vwCl [(cI, .int), (cL, .long)] s) (hN : jx_N s) {k i : Nat} (hk : k < 999) (hi : i + 4 ≤ L) (K : law_G p l e s m below meth c D cI cL a g b 632 (k + 1) (nI i)) : law_G p l e s m below meth c D cI cL a g b 582 k (nI i) := by
  obtain ⟨hx, hb, hr, hml, hown, hts, hX, hbl, hlocks, hgv⟩ := C0
  have hA : ∀ q : Nat, s.heap.size ≤ q → (fun q : Nat => s.heap.size ≤ q) q := fun _ h => h
  have hbA : ¬ (fun q : Nat => s.heap.size ≤ q) b := Nat.not_le.mpr hbl
  intro pl cd bs br un ow ki th cm tr tl ch jl bz rw kf nl np nt nr nh ns nk ne nw na nf nc ng nx H locs ls hR hP hD hS hl
  obtain ⟨r, r', e1, e2, e3, hR'⟩ := s_cure hk hR jl rw nw na nf nc ng nx 
  refine lv_aload_n hx hb dL_law_582 rfl (lv_at hl 2 rfl) ?_
  refine jx_ki (wr := wM g cI cL nl np nt nr nh ns nk ne nw na nf nc ng nx) (ws2 := wX a cI cL pl cd bs br un ow ki th cm tr tl ch jl r.2.1 r.2.2.1 r.2.2.2 ++ wM g cI cL nl np nt nr nh ns nk ne nw na nf nc ng nx) (jx_runV (As := []) (rest := []) ⟨hx, hb, hml, hown, hts⟩ (c_X6_cure l D a cI cL pl cd bs br un ow ki th cm tr tl ch jl bz rw kf  r e1 _) (cwV 0 hts gw_X6_cure rfl rfl rfl (by decide +kernel) ⟨Nat.le_of_ble_eq_true rfl, Nat.le_of_ble_eq_true rfl⟩) hK hN hP hD [0, 1, 2, 3, 4, 5, 6, 7, 8, 9, 10, 11, 12, 13, 14, 15] rfl (by decide) 0 5 rfl rfl rfl hl.1 rfl (Nat.le_of_ble_eq_true rfl) dL_law_583 ⟨Nat.le_of_ble_eq_true rfl, Nat.le_of_ble_eq_true rfl⟩) hP hD hS hA [0, 1, 2, 3, 4, 5, 6, 7, 8, 9, 10, 11, 12, 13, 14, 15] [16, 17, 18, 19, 20, 21, 22, 23] [8, 9, 10, 11, 12, 13, 14, 15, 16, 17, 18, 19, 20, 21, 22, 23, 0, 1, 2, 3, 4, 5, 6, 7] rfl rfl (by decide) (by decide) rfl (by decide) (fun H locs hP hD hS => ?_)
  refine lv_aload_n hx hb dL_law_586 rfl (lv_at hl 1 rfl) ?_
  refine jx_ki (wr := wX a cI cL pl cd bs br un ow ki th cm tr tl ch jl r.2.1 r.2.2.1 r.2.2.2) (ws2 := wX a cI cL pl cd bs br un ow ki th cm tr tl ch jl r.2.1 r.2.2.1 r.2.2.2 ++ wM g cI cL nl np nt nr nh ns nk ne nw na nf nc ng nx) (jx_runV (As := []) (rest := [.int r.1]) ⟨hx, hb, hml, hown, hts⟩ (c_X7_cure l D g cI cL nl np nt nr nh ns nk ne nw na nf nc ng nx  r' e2 _) (cwV 0 hts gw_X7_cure rfl rfl rfl (by decide +kernel) ⟨Nat.le_of_ble_eq_true rfl, Nat.le_of_ble_eq_true rfl⟩) hK hN hP hD [16, 17, 18, 19, 20, 21, 22, 23] rfl (by decide) 16 6 rfl rfl rfl hl.1 rfl (Nat.le_of_ble_eq_true rfl) dL_law_587 ⟨Nat.le_of_ble_eq_true rfl, Nat.le_of_ble_eq_true rfl⟩) hP hD hS hA [16, 17, 18, 19, 20, 21, 22, 23] [0, 1, 2, 3, 4, 5, 6, 7, 8, 9, 10, 11, 12, 13, 14, 15] [0, 1, 2, 3, 4, 5, 6, 7, 8, 9, 10, 11, 12, 13, 14, 15, 16, 17, 18, 19, 20, 21, 22, 23] rfl rfl (by decide) (by decide) rfl (by decide) (fun H locs hP hD hS => ?_)
  refine lv_icmp_eq (tgt := 632) hx hb dL_law_590 (by decide) (fun _ => ?_) (fun hq => absurd e3 hq)
  exact K pl cd bs br un ow ki th cm tr tl ch jl r.2.1 r.2.2.1 r.2.2.2 nl np nt nr nh ns nk ne nw na nf nc ng nx H locs ls hR' hP hD hS hl
set_option maxHeartbeats 4000000 in
set_option maxRecDepth 100000 in
theorem lc_count {p : Program} {l : Launch} {e : Env} {s : State} {m : MethodId} {below : List Frame} {meth : Method} {c : Code} {D : va_G} {cI cL : ClassId} {a g : Nat → Nat} {b L : Nat} {xs : Nat → Int32} (hL : L ≤ 2048) (C0 : lw_At p s m meth c b L xs) (hK : va_K D vwCl [(cI, .int), (cL, .long)] s) (hN : jx_N s) {k i : Nat} (hk : k < 999) (hi : i + 4 ≤ L) (K : law_G p l e s m below meth c D cI cL a g b 632 (k + 1) (nI i)) : law_G p l e s m below meth c D cI cL a g b 595 k (nI i) := by
  obtain ⟨hx, hb, hr, hml, hown, hts, hX, hbl, hlocks, hgv⟩ := C0
  have hA : ∀ q : Nat, s.heap.size ≤ q → (fun q : Nat => s.heap.size ≤ q) q := fun _ h => h
  have hbA : ¬ (fun q : Nat => s.heap.size ≤ q) b := Nat.not_le.mpr hbl
  intro pl cd bs br un ow ki th cm tr tl ch jl bz rw kf nl np nt nr nh ns nk ne nw na nf nc ng nx H locs ls hR hP hD hS hl
  have hi1 : vp_in (nI i + 1) L := by rw [show nI i + 1 = nI (i + 1) from nI_add i 1]; exact vp_in_nI (by omega) (by omega)
  obtain ⟨r, r', e1, e2, e3, hR'⟩ := s_count hk hR jl rw nw na nf nc ng nx (xs (nI i + 1).toNatClampNeg)
  refine lv_aload_n hx hb dL_law_595 rfl (lv_at hl 2 rfl) ?_
  refine lv_aload_n hx hb dL_law_596 rfl (lv_at hl 3 rfl) ?_
  refine lv_iload_n hx hb dL_law_597 rfl (lv_at hl 0 rfl) ?_
  refine lv_iconst (v := 1) hx hb dL_law_598 (by decide) ?_
  refine lv_iadd hx hb dL_law_599 ?_
  refine va_sld hx hb hX hbl hbA hS hi1 dL_law_600 ?_
  refine jx_ki (wr := wM g cI cL nl np nt nr nh ns nk ne nw na nf nc ng nx) (ws2 := wX a cI cL pl cd bs br un ow ki th cm tr tl ch jl bz rw kf ++ wM g cI cL nl np nt nr nh ns nk ne nw na nf nc ng nx) (jx_runV (As := [.int (xs (nI i + 1).toNatClampNeg)]) (rest := []) ⟨hx, hb, hml, hown, hts⟩ (c_X6_count l D a cI cL pl cd bs br un ow ki th cm tr tl ch jl bz rw kf (xs (nI i + 1).toNatClampNeg) r e1 _) (cwV 1 hts gw_X6_count rfl rfl rfl (by decide +kernel) ⟨Nat.le_of_ble_eq_true rfl, Nat.le_of_ble_eq_true rfl⟩) hK hN hP hD [0, 1, 2, 3, 4, 5, 6, 7, 8, 9, 10, 11, 12, 13, 14, 15] rfl (by decide) 0 5 rfl rfl rfl hl.1 rfl (Nat.le_of_ble_eq_true rfl) dL_law_601 ⟨Nat.le_of_ble_eq_true rfl, Nat.le_of_ble_eq_true rfl⟩) hP hD hS hA [0, 1, 2, 3, 4, 5, 6, 7, 8, 9, 10, 11, 12, 13, 14, 15] [16, 17, 18, 19, 20, 21, 22, 23] [8, 9, 10, 11, 12, 13, 14, 15, 16, 17, 18, 19, 20, 21, 22, 23, 0, 1, 2, 3, 4, 5, 6, 7] rfl rfl (by decide) (by decide) rfl (by decide) (fun H locs hP hD hS => ?_)
  refine lv_aload_n hx hb dL_law_604 rfl (lv_at hl 1 rfl) ?_
  refine lv_aload_n hx hb dL_law_605 rfl (lv_at hl 3 rfl) ?_
  refine lv_iload_n hx hb dL_law_606 rfl (lv_at hl 0 rfl) ?_
  refine lv_iconst (v := 1) hx hb dL_law_607 (by decide) ?_
  refine lv_iadd hx hb dL_law_608 ?_
  refine va_sld hx hb hX hbl hbA hS hi1 dL_law_609 ?_
  refine jx_ki (wr := wX a cI cL pl cd bs br un ow ki th cm tr tl ch jl bz rw kf) (ws2 := wX a cI cL pl cd bs br un ow ki th cm tr tl ch jl bz rw kf ++ wM g cI cL nl np nt nr nh ns nk ne nw na nf r'.2.1 r'.2.2 nx) (jx_runV (As := [.int (xs (nI i + 1).toNatClampNeg)]) (rest := [.int r]) ⟨hx, hb, hml, hown, hts⟩ (c_X7_count l D g cI cL nl np nt nr nh ns nk ne nw na nf nc ng nx (xs (nI i + 1).toNatClampNeg) r' e2 _) (cwV 1 hts gw_X7_count rfl rfl rfl (by decide +kernel) ⟨Nat.le_of_ble_eq_true rfl, Nat.le_of_ble_eq_true rfl⟩) hK hN hP hD [16, 17, 18, 19, 20, 21, 22, 23] rfl (by decide) 16 6 rfl rfl rfl hl.1 rfl (Nat.le_of_ble_eq_true rfl) dL_law_610 ⟨Nat.le_of_ble_eq_true rfl, Nat.le_of_ble_eq_true rfl⟩) hP hD hS hA [16, 17, 18, 19, 20, 21, 22, 23] [0, 1, 2, 3, 4, 5, 6, 7, 8, 9, 10, 11, 12, 13, 14, 15] [0, 1, 2, 3, 4, 5, 6, 7, 8, 9, 10, 11, 12, 13, 14, 15, 16, 17, 18, 19, 20, 21, 22, 23] rfl rfl (by decide) (by decide) rfl (by decide) (fun H locs hP hD hS => ?_)
  refine lv_icmp_eq (tgt := 632) hx hb dL_law_613 (by decide) (fun _ => ?_) (fun hq => absurd e3 hq)
  exact K pl cd bs br un ow ki th cm tr tl ch jl bz rw kf nl np nt nr nh ns nk ne nw na nf r'.2.1 r'.2.2 nx H locs ls hR' hP hD hS hl
set_option maxHeartbeats 4000000 in
set_option maxRecDepth 100000 in
theorem lc_digest {p : Program} {l : Launch} {e : Env} {s : State} {m : MethodId} {below : List Frame} {meth : Method} {c : Code} {D : va_G} {cI cL : ClassId} {a g : Nat → Nat} {b L : Nat} {xs : Nat → Int32} (hL : L ≤ 2048) (C0 : lw_At p s m meth c b L xs) (hK : va_K D vwCl [(cI, .int), (cL, .long)] s) (hN : jx_N s) {k i : Nat} (hk : k < 999) (hi : i + 4 ≤ L) (K : law_G p l e s m below meth c D cI cL a g b 632 (k + 1) (nI i)) : law_G p l e s m below meth c D cI cL a g b 618 k (nI i) := by
  obtain ⟨hx, hb, hr, hml, hown, hts, hX, hbl, hlocks, hgv⟩ := C0
  have hA : ∀ q : Nat, s.heap.size ≤ q → (fun q : Nat => s.heap.size ≤ q) q := fun _ h => h
  have hbA : ¬ (fun q : Nat => s.heap.size ≤ q) b := Nat.not_le.mpr hbl
  intro pl cd bs br un ow ki th cm tr tl ch jl bz rw kf nl np nt nr nh ns nk ne nw na nf nc ng nx H locs ls hR hP hD hS hl
  obtain ⟨r, r', e1, e2, e3, hR'⟩ := s_digest hk hR jl rw nw na nf nc ng nx 
  refine lv_aload_n hx hb dL_law_618 rfl (lv_at hl 2 rfl) ?_
  refine jx_kl (wr := wM g cI cL nl np nt nr nh ns nk ne nw na nf nc ng nx) (ws2 := wX a cI cL pl cd bs br un ow ki th cm tr tl ch jl r.2.1 r.2.2.1 r.2.2.2 ++ wM g cI cL nl np nt nr nh ns nk ne nw na nf nc ng nx) (jx_runV (As := []) (rest := []) ⟨hx, hb, hml, hown, hts⟩ (c_X6_digest l D a cI cL pl cd bs br un ow ki th cm tr tl ch jl bz rw kf  r e1 _) (cwV 0 hts gw_X6_digest rfl rfl rfl (by decide +kernel) ⟨Nat.le_of_ble_eq_true rfl, Nat.le_of_ble_eq_true rfl⟩) hK hN hP hD [0, 1, 2, 3, 4, 5, 6, 7, 8, 9, 10, 11, 12, 13, 14, 15] rfl (by decide) 0 5 rfl rfl rfl hl.1 rfl (Nat.le_of_ble_eq_true rfl) dL_law_619 ⟨Nat.le_of_ble_eq_true rfl, Nat.le_of_ble_eq_true rfl⟩) hP hD hS hA [0, 1, 2, 3, 4, 5, 6, 7, 8, 9, 10, 11, 12, 13, 14, 15] [16, 17, 18, 19, 20, 21, 22, 23] [8, 9, 10, 11, 12, 13, 14, 15, 16, 17, 18, 19, 20, 21, 22, 23, 0, 1, 2, 3, 4, 5, 6, 7] rfl rfl (by decide) (by decide) rfl (by decide) (fun H locs hP hD hS => ?_)
  refine lv_aload_n hx hb dL_law_622 rfl (lv_at hl 1 rfl) ?_
  refine jx_kl (wr := wX a cI cL pl cd bs br un ow ki th cm tr tl ch jl r.2.1 r.2.2.1 r.2.2.2) (ws2 := wX a cI cL pl cd bs br un ow ki th cm tr tl ch jl r.2.1 r.2.2.1 r.2.2.2 ++ wM g cI cL nl np nt nr nh ns nk ne nw na nf r'.2.1 r'.2.2.1 r'.2.2.2) (jx_runV (As := []) (rest := [.long r.1]) ⟨hx, hb, hml, hown, hts⟩ (c_X7_digest l D g cI cL nl np nt nr nh ns nk ne nw na nf nc ng nx  r' e2 _) (cwV 0 hts gw_X7_digest rfl rfl rfl (by decide +kernel) ⟨Nat.le_of_ble_eq_true rfl, Nat.le_of_ble_eq_true rfl⟩) hK hN hP hD [16, 17, 18, 19, 20, 21, 22, 23] rfl (by decide) 16 6 rfl rfl rfl hl.1 rfl (Nat.le_of_ble_eq_true rfl) dL_law_623 ⟨Nat.le_of_ble_eq_true rfl, Nat.le_of_ble_eq_true rfl⟩) hP hD hS hA [16, 17, 18, 19, 20, 21, 22, 23] [0, 1, 2, 3, 4, 5, 6, 7, 8, 9, 10, 11, 12, 13, 14, 15] [0, 1, 2, 3, 4, 5, 6, 7, 8, 9, 10, 11, 12, 13, 14, 15, 16, 17, 18, 19, 20, 21, 22, 23] rfl rfl (by decide) (by decide) rfl (by decide) (fun H locs hP hD hS => ?_)
  refine W.lcmp hx hb dL_law_626 ?_
  refine W.eq (g2 := F0 m 627 ls [.int (lg_cmp r.1 r'.1)]) rfl ?_
  refine lv_if_eq (tgt := 632) hx hb dL_law_627 (by decide) (fun _ => ?_) (fun hq => absurd (l_ne.mpr e3) hq)
  exact K pl cd bs br un ow ki th cm tr tl ch jl r.2.1 r.2.2.1 r.2.2.2 nl np nt nr nh ns nk ne nw na nf r'.2.1 r'.2.2.1 r'.2.2.2 H locs ls hR' hP hD hS hl
