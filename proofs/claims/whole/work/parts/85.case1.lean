/-! the calls of the law, one by one -/
set_option maxHeartbeats 4000000 in
set_option maxRecDepth 100000 in
theorem lc_letter {p : Program} {l : Launch} {e : Env} {s : State} {m : MethodId} {below : List Frame} {meth : Method} {c : Code} {D : va_G} {cI cL : ClassId} {a g : Nat → Nat} {b L : Nat} {xs : Nat → Int32} (hL : L ≤ 2048) (C0 : lw_At p s m meth c b L xs) (hK : va_K D vwCl [(cI, .int), (cL, .long)] s) (hN : jx_N s) {k i : Nat} (hk : k < 999) (hi : i + 4 ≤ L) (K : law_G p l e s m below meth c D cI cL a g b 632 (k + 1) (nI i)) : law_G p l e s m below meth c D cI cL a g b 124 k (nI i) := by
  obtain ⟨hx, hb, hr, hml, hown, hts, hX, hbl, hlocks, hgv⟩ := C0
  have hA : ∀ q : Nat, s.heap.size ≤ q → (fun q : Nat => s.heap.size ≤ q) q := fun _ h => h
  have hbA : ¬ (fun q : Nat => s.heap.size ≤ q) b := Nat.not_le.mpr hbl
  intro pl cd bs br un ow ki th cm tr tl ch jl bz rw kf nl np nt nr nh ns nk ne nw na nf nc ng nx H locs ls hR hP hD hS hl
  have hi1 : vp_in (nI i + 1) L := by rw [show nI i + 1 = nI (i + 1) from nI_add i 1]; exact vp_in_nI (by omega) (by omega)
  obtain ⟨r, r', e1, e2, e3, hR'⟩ := s_letter hk hR jl rw nw na nf nc ng nx (xs (nI i + 1).toNatClampNeg)
  refine lv_aload_n hx hb dL_law_124 rfl (lv_at hl 2 rfl) ?_
  refine lv_aload_n hx hb dL_law_125 rfl (lv_at hl 3 rfl) ?_
  refine lv_iload_n hx hb dL_law_126 rfl (lv_at hl 0 rfl) ?_
  refine lv_iconst (v := 1) hx hb dL_law_127 (by decide) ?_
  refine lv_iadd hx hb dL_law_128 ?_
  refine va_sld hx hb hX hbl hbA hS hi1 dL_law_129 ?_
  refine jx_ki (wr := wM g cI cL nl np nt nr nh ns nk ne nw na nf nc ng nx) (ws2 := wX a cI cL r.2.1 r.2.2 bs br un ow ki th cm tr tl ch jl bz rw kf ++ wM g cI cL nl np nt nr nh ns nk ne nw na nf nc ng nx) (jx_runV (As := [.int (xs (nI i + 1).toNatClampNeg)]) (rest := []) ⟨hx, hb, hml, hown, hts⟩ (c_X6_letter l D a cI cL pl cd bs br un ow ki th cm tr tl ch jl bz rw kf (xs (nI i + 1).toNatClampNeg) r e1 _) (cwV 1 hts gw_X6_letter rfl rfl rfl (by decide +kernel) ⟨Nat.le_of_ble_eq_true rfl, Nat.le_of_ble_eq_true rfl⟩) hK hN hP hD [0, 1, 2, 3, 4, 5, 6, 7, 8, 9, 10, 11, 12, 13, 14, 15] rfl (by decide) 0 5 rfl rfl rfl hl.1 rfl (Nat.le_of_ble_eq_true rfl) dL_law_130 ⟨Nat.le_of_ble_eq_true rfl, Nat.le_of_ble_eq_true rfl⟩) hP hD hS hA [0, 1, 2, 3, 4, 5, 6, 7, 8, 9, 10, 11, 12, 13, 14, 15] [16, 17, 18, 19, 20, 21, 22, 23] [8, 9, 10, 11, 12, 13, 14, 15, 16, 17, 18, 19, 20, 21, 22, 23, 0, 1, 2, 3, 4, 5, 6, 7] rfl rfl (by decide) (by decide) rfl (by decide) (fun H locs hP hD hS => ?_)
  refine lv_aload_n hx hb dL_law_133 rfl (lv_at hl 1 rfl) ?_
  refine lv_aload_n hx hb dL_law_134 rfl (lv_at hl 3 rfl) ?_
  refine lv_iload_n hx hb dL_law_135 rfl (lv_at hl 0 rfl) ?_
  refine lv_iconst (v := 1) hx hb dL_law_136 (by decide) ?_
  refine lv_iadd hx hb dL_law_137 ?_
  refine va_sld hx hb hX hbl hbA hS hi1 dL_law_138 ?_
  refine jx_ki (wr := wX a cI cL r.2.1 r.2.2 bs br un ow ki th cm tr tl ch jl bz rw kf) (ws2 := wX a cI cL r.2.1 r.2.2 bs br un ow ki th cm tr tl ch jl bz rw kf ++ wM g cI cL r'.2.1 r'.2.2 nt nr nh ns nk ne nw na nf nc ng nx) (jx_runV (As := [.int (xs (nI i + 1).toNatClampNeg)]) (rest := [.int r.1]) ⟨hx, hb, hml, hown, hts⟩ (c_X7_letter l D g cI cL nl np nt nr nh ns nk ne nw na nf nc ng nx (xs (nI i + 1).toNatClampNeg) r' e2 _) (cwV 1 hts gw_X7_letter rfl rfl rfl (by decide +kernel) ⟨Nat.le_of_ble_eq_true rfl, Nat.le_of_ble_eq_true rfl⟩) hK hN hP hD [16, 17, 18, 19, 20, 21, 22, 23] rfl (by decide) 16 6 rfl rfl rfl hl.1 rfl (Nat.le_of_ble_eq_true rfl) dL_law_139 ⟨Nat.le_of_ble_eq_true rfl, Nat.le_of_ble_eq_true rfl⟩) hP hD hS hA [16, 17, 18, 19, 20, 21, 22, 23] [0, 1, 2, 3, 4, 5, 6, 7, 8, 9, 10, 11, 12, 13, 14, 15] [0, 1, 2, 3, 4, 5, 6, 7, 8, 9, 10, 11, 12, 13, 14, 15, 16, 17, 18, 19, 20, 21, 22, 23] rfl rfl (by decide) (by decide) rfl (by decide) (fun H locs hP hD hS => ?_)
  refine lv_icmp_eq (tgt := 632) hx hb dL_law_142 (by decide) (fun _ => ?_) (fun hq => absurd e3 hq)
  exact K r.2.1 r.2.2 bs br un ow ki th cm tr tl ch jl bz rw kf r'.2.1 r'.2.2 nt nr nh ns nk ne nw na nf nc ng nx H locs ls hR' hP hD hS hl
set_option maxHeartbeats 4000000 in
set_option maxRecDepth 100000 in
theorem lc_blank {p : Program} {l : Launch} {e : Env} {s : State} {m : MethodId} {below : List Frame} {meth : Method} {c : Code} {D : va_G} {cI cL : ClassId} {a g : Nat → Nat} {b L : Nat} {xs : Nat → Int32} (hL : L ≤ 2048) (C0 : lw_At p s m meth c b L xs) (hK : va_K D vwCl [(cI, .int), (cL, .long)] s) (hN : jx_N s) {k i : Nat} (hk : k < 999) (hi : i + 4 ≤ L) (K : law_G p l e s m below meth c D cI cL a g b 632 (k + 1) (nI i)) : law_G p l e s m below meth c D cI cL a g b 147 k (nI i) := by
  obtain ⟨hx, hb, hr, hml, hown, hts, hX, hbl, hlocks, hgv⟩ := C0
  have hA : ∀ q : Nat, s.heap.size ≤ q → (fun q : Nat => s.heap.size ≤ q) q := fun _ h => h
  have hbA : ¬ (fun q : Nat => s.heap.size ≤ q) b := Nat.not_le.mpr hbl
  intro pl cd bs br un ow ki th cm tr tl ch jl bz rw kf nl np nt nr nh ns nk ne nw na nf nc ng nx H locs ls hR hP hD hS hl
  obtain ⟨r, r', e1, e2, e3, hR'⟩ := s_blank hk hR jl rw nw na nf nc ng nx 
  refine lv_aload_n hx hb dL_law_147 rfl (lv_at hl 2 rfl) ?_
  refine jx_ki (wr := wM g cI cL nl np nt nr nh ns nk ne nw na nf nc ng nx) (ws2 := wX a cI cL r.2 cd bs br un ow ki th cm tr tl ch jl bz rw kf ++ wM g cI cL nl np nt nr nh ns nk ne nw na nf nc ng nx) (jx_runV (As := []) (rest := []) ⟨hx, hb, hml, hown, hts⟩ (c_X6_blank l D a cI cL pl cd bs br un ow ki th cm tr tl ch jl bz rw kf  r e1 _) (cwV 0 hts gw_X6_blank rfl rfl rfl (by decide +kernel) ⟨Nat.le_of_ble_eq_true rfl, Nat.le_of_ble_eq_true rfl⟩) hK hN hP hD [0, 1, 2, 3, 4, 5, 6, 7, 8, 9, 10, 11, 12, 13, 14, 15] rfl (by decide) 0 5 rfl rfl rfl hl.1 rfl (Nat.le_of_ble_eq_true rfl) dL_law_148 ⟨Nat.le_of_ble_eq_true rfl, Nat.le_of_ble_eq_true rfl⟩) hP hD hS hA [0, 1, 2, 3, 4, 5, 6, 7, 8, 9, 10, 11, 12, 13, 14, 15] [16, 17, 18, 19, 20, 21, 22, 23] [8, 9, 10, 11, 12, 13, 14, 15, 16, 17, 18, 19, 20, 21, 22, 23, 0, 1, 2, 3, 4, 5, 6, 7] rfl rfl (by decide) (by decide) rfl (by decide) (fun H locs hP hD hS => ?_)
  refine lv_aload_n hx hb dL_law_151 rfl (lv_at hl 1 rfl) ?_
  refine jx_ki (wr := wX a cI cL r.2 cd bs br un ow ki th cm tr tl ch jl bz rw kf) (ws2 := wX a cI cL r.2 cd bs br un ow ki th cm tr tl ch jl bz rw kf ++ wM g cI cL r'.2 np nt nr nh ns nk ne nw na nf nc ng nx) (jx_runV (As := []) (rest := [.int r.1]) ⟨hx, hb, hml, hown, hts⟩ (c_X7_blank l D g cI cL nl np nt nr nh ns nk ne nw na nf nc ng nx  r' e2 _) (cwV 0 hts gw_X7_blank rfl rfl rfl (by decide +kernel) ⟨Nat.le_of_ble_eq_true rfl, Nat.le_of_ble_eq_true rfl⟩) hK hN hP hD [16, 17, 18, 19, 20, 21, 22, 23] rfl (by decide) 16 6 rfl rfl rfl hl.1 rfl (Nat.le_of_ble_eq_true rfl) dL_law_152 ⟨Nat.le_of_ble_eq_true rfl, Nat.le_of_ble_eq_true rfl⟩) hP hD hS hA [16, 17, 18, 19, 20, 21, 22, 23] [0, 1, 2, 3, 4, 5, 6, 7, 8, 9, 10, 11, 12, 13, 14, 15] [0, 1, 2, 3, 4, 5, 6, 7, 8, 9, 10, 11, 12, 13, 14, 15, 16, 17, 18, 19, 20, 21, 22, 23] rfl rfl (by decide) (by decide) rfl (by decide) (fun H locs hP hD hS => ?_)
  refine lv_icmp_eq (tgt := 632) hx hb dL_law_155 (by decide) (fun _ => ?_) (fun hq => absurd e3 hq)
  exact K r.2 cd bs br un ow ki th cm tr tl ch jl bz rw kf r'.2 np nt nr nh ns nk ne nw na nf nc ng nx H locs ls hR' hP hD hS hl
set_option maxHeartbeats 4000000 in
set_option maxRecDepth 100000 in
theorem lc_fault {p : Program} {l : Launch} {e : Env} {s : State} {m : MethodId} {below : List Frame} {meth : Method} {c : Code} {D : va_G} {cI cL : ClassId} {a g : Nat → Nat} {b L : Nat} {xs : Nat → Int32} (hL : L ≤ 2048) (C0 : lw_At p s m meth c b L xs) (hK : va_K D vwCl [(cI, .int), (cL, .long)] s) (hN : jx_N s) {k i : Nat} (hk : k < 999) (hi : i + 4 ≤ L) (K : law_G p l e s m below meth c D cI cL a g b 632 (k + 1) (nI i)) : law_G p l e s m below meth c D cI cL a g b 160 k (nI i) := by
  obtain ⟨hx, hb, hr, hml, hown, hts, hX, hbl, hlocks, hgv⟩ := C0
  have hA : ∀ q : Nat, s.heap.size ≤ q → (fun q : Nat => s.heap.size ≤ q) q := fun _ h => h
  have hbA : ¬ (fun q : Nat => s.heap.size ≤ q) b := Nat.not_le.mpr hbl
  intro pl cd bs br un ow ki th cm tr tl ch jl bz rw kf nl np nt nr nh ns nk ne nw na nf nc ng nx H locs ls hR hP hD hS hl
  obtain ⟨r, r', e1, e2, e3, hR'⟩ := s_fault hk hR jl rw nw na nf nc ng nx 
  refine lv_aload_n hx hb dL_law_160 rfl (lv_at hl 2 rfl) ?_
  refine jx_ki (wr := wM g cI cL nl np nt nr nh ns nk ne nw na nf nc ng nx) (ws2 := wX a cI cL pl cd bs br un ow ki th cm tr tl ch jl bz rw kf ++ wM g cI cL nl np nt nr nh ns nk ne nw na nf nc ng nx) (jx_runV (As := []) (rest := []) ⟨hx, hb, hml, hown, hts⟩ (c_X6_fault l D a cI cL pl cd bs br un ow ki th cm tr tl ch jl bz rw kf  r e1 _) (cwV 0 hts gw_X6_fault rfl rfl rfl (by decide +kernel) ⟨Nat.le_of_ble_eq_true rfl, Nat.le_of_ble_eq_true rfl⟩) hK hN hP hD [0, 1, 2, 3, 4, 5, 6, 7, 8, 9, 10, 11, 12, 13, 14, 15] rfl (by decide) 0 5 rfl rfl rfl hl.1 rfl (Nat.le_of_ble_eq_true rfl) dL_law_161 ⟨Nat.le_of_ble_eq_true rfl, Nat.le_of_ble_eq_true rfl⟩) hP hD hS hA [0, 1, 2, 3, 4, 5, 6, 7, 8, 9, 10, 11, 12, 13, 14, 15] [16, 17, 18, 19, 20, 21, 22, 23] [8, 9, 10, 11, 12, 13, 14, 15, 16, 17, 18, 19, 20, 21, 22, 23, 0, 1, 2, 3, 4, 5, 6, 7] rfl rfl (by decide) (by decide) rfl (by decide) (fun H locs hP hD hS => ?_)
  refine lv_aload_n hx hb dL_law_164 rfl (lv_at hl 1 rfl) ?_
  refine jx_ki (wr := wX a cI cL pl cd bs br un ow ki th cm tr tl ch jl bz rw kf) (ws2 := wX a cI cL pl cd bs br un ow ki th cm tr tl ch jl bz rw kf ++ wM g cI cL nl np nt r'.2 nh ns nk ne nw na nf nc ng nx) (jx_runV (As := []) (rest := [.int r]) ⟨hx, hb, hml, hown, hts⟩ (c_X7_fault l D g cI cL nl np nt nr nh ns nk ne nw na nf nc ng nx  r' e2 _) (cwV 0 hts gw_X7_fault rfl rfl rfl (by decide +kernel) ⟨Nat.le_of_ble_eq_true rfl, Nat.le_of_ble_eq_true rfl⟩) hK hN hP hD [16, 17, 18, 19, 20, 21, 22, 23] rfl (by decide) 16 6 rfl rfl rfl hl.1 rfl (Nat.le_of_ble_eq_true rfl) dL_law_165 ⟨Nat.le_of_ble_eq_true rfl, Nat.le_of_ble_eq_true rfl⟩) hP hD hS hA [16, 17, 18, 19, 20, 21, 22, 23] [0, 1, 2, 3, 4, 5, 6, 7, 8, 9, 10, 11, 12, 13, 14, 15] [0, 1, 2, 3, 4, 5, 6, 7, 8, 9, 10, 11, 12, 13, 14, 15, 16, 17, 18, 19, 20, 21, 22, 23] rfl rfl (by decide) (by decide) rfl (by decide) (fun H locs hP hD hS => ?_)
  refine lv_icmp_eq (tgt := 632) hx hb dL_law_168 (by decide) (fun _ => ?_) (fun hq => absurd e3 hq)
  exact K pl cd bs br un ow ki th cm tr tl ch jl bz rw kf nl np nt r'.2 nh ns nk ne nw na nf nc ng nx H locs ls hR' hP hD hS hl
set_option maxHeartbeats 4000000 in
set_option maxRecDepth 100000 in
theorem lc_terms {p : Program} {l : Launch} {e : Env} {s : State} {m : MethodId} {below : List Frame} {meth : Method} {c : Code} {D : va_G} {cI cL : ClassId} {a g : Nat → Nat} {b L : Nat} {xs : Nat → Int32} (hL : L ≤ 2048) (C0 : lw_At p s m meth c b L xs) (hK : va_K D vwCl [(cI, .int), (cL, .long)] s) (hN : jx_N s) {k i : Nat} (hk : k < 999) (hi : i + 4 ≤ L) (K : law_G p l e s m below meth c D cI cL a g b 632 (k + 1) (nI i)) : law_G p l e s m below meth c D cI cL a g b 173 k (nI i) := by
  obtain ⟨hx, hb, hr, hml, hown, hts, hX, hbl, hlocks, hgv⟩ := C0
  have hA : ∀ q : Nat, s.heap.size ≤ q → (fun q : Nat => s.heap.size ≤ q) q := fun _ h => h
  have hbA : ¬ (fun q : Nat => s.heap.size ≤ q) b := Nat.not_le.mpr hbl
  intro pl cd bs br un ow ki th cm tr tl ch jl bz rw kf nl np nt nr nh ns nk ne nw na nf nc ng nx H locs ls hR hP hD hS hl
  obtain ⟨r, r', e1, e2, e3, hR'⟩ := s_terms hk hR jl rw nw na nf nc ng nx 
  refine lv_aload_n hx hb dL_law_173 rfl (lv_at hl 2 rfl) ?_
  refine jx_ki (wr := wM g cI cL nl np nt nr nh ns nk ne nw na nf nc ng nx) (ws2 := wX a cI cL r.2.1 cd r.2.2.1 r.2.2.2 un ow ki th cm tr tl ch jl bz rw kf ++ wM g cI cL nl np nt nr nh ns nk ne nw na nf nc ng nx) (jx_runV (As := []) (rest := []) ⟨hx, hb, hml, hown, hts⟩ (c_X6_terms l D a cI cL pl cd bs br un ow ki th cm tr tl ch jl bz rw kf  r e1 _) (cwV 0 hts gw_X6_terms rfl rfl rfl (by decide +kernel) ⟨Nat.le_of_ble_eq_true rfl, Nat.le_of_ble_eq_true rfl⟩) hK hN hP hD [0, 1, 2, 3, 4, 5, 6, 7, 8, 9, 10, 11, 12, 13, 14, 15] rfl (by decide) 0 5 rfl rfl rfl hl.1 rfl (Nat.le_of_ble_eq_true rfl) dL_law_174 ⟨Nat.le_of_ble_eq_true rfl, Nat.le_of_ble_eq_true rfl⟩) hP hD hS hA [0, 1, 2, 3, 4, 5, 6, 7, 8, 9, 10, 11, 12, 13, 14, 15] [16, 17, 18, 19, 20, 21, 22, 23] [8, 9, 10, 11, 12, 13, 14, 15, 16, 17, 18, 19, 20, 21, 22, 23, 0, 1, 2, 3, 4, 5, 6, 7] rfl rfl (by decide) (by decide) rfl (by decide) (fun H locs hP hD hS => ?_)
  refine lv_aload_n hx hb dL_law_177 rfl (lv_at hl 1 rfl) ?_
  refine jx_ki (wr := wX a cI cL r.2.1 cd r.2.2.1 r.2.2.2 un ow ki th cm tr tl ch jl bz rw kf) (ws2 := wX a cI cL r.2.1 cd r.2.2.1 r.2.2.2 un ow ki th cm tr tl ch jl bz rw kf ++ wM g cI cL r'.2.1 np r'.2.2.1 r'.2.2.2 nh ns nk ne nw na nf nc ng nx) (jx_runV (As := []) (rest := [.int r.1]) ⟨hx, hb, hml, hown, hts⟩ (c_X7_terms l D g cI cL nl np nt nr nh ns nk ne nw na nf nc ng nx  r' e2 _) (cwV 0 hts gw_X7_terms rfl rfl rfl (by decide +kernel) ⟨Nat.le_of_ble_eq_true rfl, Nat.le_of_ble_eq_true rfl⟩) hK hN hP hD [16, 17, 18, 19, 20, 21, 22, 23] rfl (by decide) 16 6 rfl rfl rfl hl.1 rfl (Nat.le_of_ble_eq_true rfl) dL_law_178 ⟨Nat.le_of_ble_eq_true rfl, Nat.le_of_ble_eq_true rfl⟩) hP hD hS hA [16, 17, 18, 19, 20, 21, 22, 23] [0, 1, 2, 3, 4, 5, 6, 7, 8, 9, 10, 11, 12, 13, 14, 15] [0, 1, 2, 3, 4, 5, 6, 7, 8, 9, 10, 11, 12, 13, 14, 15, 16, 17, 18, 19, 20, 21, 22, 23] rfl rfl (by decide) (by decide) rfl (by decide) (fun H locs hP hD hS => ?_)
  refine lv_icmp_eq (tgt := 632) hx hb dL_law_181 (by decide) (fun _ => ?_) (fun hq => absurd e3 hq)
  exact K r.2.1 cd r.2.2.1 r.2.2.2 un ow ki th cm tr tl ch jl bz rw kf r'.2.1 np r'.2.2.1 r'.2.2.2 nh ns nk ne nw na nf nc ng nx H locs ls hR' hP hD hS hl
set_option maxHeartbeats 4000000 in
set_option maxRecDepth 100000 in
theorem lc_reach {p : Program} {l : Launch} {e : Env} {s : State} {m : MethodId} {below : List Frame} {meth : Method} {c : Code} {D : va_G} {cI cL : ClassId} {a g : Nat → Nat} {b L : Nat} {xs : Nat → Int32} (hL : L ≤ 2048) (C0 : lw_At p s m meth c b L xs) (hK : va_K D vwCl [(cI, .int), (cL, .long)] s) (hN : jx_N s) {k i : Nat} (hk : k < 999) (hi : i + 4 ≤ L) (K : law_G p l e s m below meth c D cI cL a g b 632 (k + 1) (nI i)) : law_G p l e s m below meth c D cI cL a g b 186 k (nI i) := by
  obtain ⟨hx, hb, hr, hml, hown, hts, hX, hbl, hlocks, hgv⟩ := C0
  have hA : ∀ q : Nat, s.heap.size ≤ q → (fun q : Nat => s.heap.size ≤ q) q := fun _ h => h
  have hbA : ¬ (fun q : Nat => s.heap.size ≤ q) b := Nat.not_le.mpr hbl
  intro pl cd bs br un ow ki th cm tr tl ch jl bz rw kf nl np nt nr nh ns nk ne nw na nf nc ng nx H locs ls hR hP hD hS hl
  have hi1 : vp_in (nI i + 1) L := by rw [show nI i + 1 = nI (i + 1) from nI_add i 1]; exact vp_in_nI (by omega) (by omega)
  have hi2 : vp_in (nI i + 2) L := by rw [show nI i + 2 = nI (i + 2) from nI_add i 2]; exact vp_in_nI (by omega) (by omega)
  obtain ⟨r, r', e1, e2, e3, hR'⟩ := s_reach hk hR jl rw nw na nf nc ng nx (xs (nI i + 1).toNatClampNeg) (xs (nI i + 2).toNatClampNeg)
  refine lv_aload_n hx hb dL_law_186 rfl (lv_at hl 2 rfl) ?_
  refine lv_aload_n hx hb dL_law_187 rfl (lv_at hl 3 rfl) ?_
  refine lv_iload_n hx hb dL_law_188 rfl (lv_at hl 0 rfl) ?_
  refine lv_iconst (v := 1) hx hb dL_law_189 (by decide) ?_
  refine lv_iadd hx hb dL_law_190 ?_
  refine va_sld hx hb hX hbl hbA hS hi1 dL_law_191 ?_
  refine lv_aload_n hx hb dL_law_192 rfl (lv_at hl 3 rfl) ?_
  refine lv_iload_n hx hb dL_law_193 rfl (lv_at hl 0 rfl) ?_
  refine lv_iconst (v := 2) hx hb dL_law_194 (by decide) ?_
  refine lv_iadd hx hb dL_law_195 ?_
  refine va_sld hx hb hX hbl hbA hS hi2 dL_law_196 ?_
  refine jx_ki (wr := wM g cI cL nl np nt nr nh ns nk ne nw na nf nc ng nx) (ws2 := wX a cI cL pl cd bs br un ow ki th cm tr tl ch jl bz rw kf ++ wM g cI cL nl np nt nr nh ns nk ne nw na nf nc ng nx) (jx_runV (As := [.int (xs (nI i + 1).toNatClampNeg), .int (xs (nI i + 2).toNatClampNeg)]) (rest := []) ⟨hx, hb, hml, hown, hts⟩ (c_X6_reach l D a cI cL pl cd bs br un ow ki th cm tr tl ch jl bz rw kf (xs (nI i + 1).toNatClampNeg) (xs (nI i + 2).toNatClampNeg) r e1 _) (cwV 2 hts gw_X6_reach rfl rfl rfl (by decide +kernel) ⟨Nat.le_of_ble_eq_true rfl, Nat.le_of_ble_eq_true rfl⟩) hK hN hP hD [0, 1, 2, 3, 4, 5, 6, 7, 8, 9, 10, 11, 12, 13, 14, 15] rfl (by decide) 0 5 rfl rfl rfl hl.1 rfl (Nat.le_of_ble_eq_true rfl) dL_law_197 ⟨Nat.le_of_ble_eq_true rfl, Nat.le_of_ble_eq_true rfl⟩) hP hD hS hA [0, 1, 2, 3, 4, 5, 6, 7, 8, 9, 10, 11, 12, 13, 14, 15] [16, 17, 18, 19, 20, 21, 22, 23] [8, 9, 10, 11, 12, 13, 14, 15, 16, 17, 18, 19, 20, 21, 22, 23, 0, 1, 2, 3, 4, 5, 6, 7] rfl rfl (by decide) (by decide) rfl (by decide) (fun H locs hP hD hS => ?_)
  refine lv_aload_n hx hb dL_law_200 rfl (lv_at hl 1 rfl) ?_
  refine lv_aload_n hx hb dL_law_201 rfl (lv_at hl 3 rfl) ?_
  refine lv_iload_n hx hb dL_law_202 rfl (lv_at hl 0 rfl) ?_
  refine lv_iconst (v := 1) hx hb dL_law_203 (by decide) ?_
  refine lv_iadd hx hb dL_law_204 ?_
  refine va_sld hx hb hX hbl hbA hS hi1 dL_law_205 ?_
  refine lv_aload_n hx hb dL_law_206 rfl (lv_at hl 3 rfl) ?_
  refine lv_iload_n hx hb dL_law_207 rfl (lv_at hl 0 rfl) ?_
  refine lv_iconst (v := 2) hx hb dL_law_208 (by decide) ?_
  refine lv_iadd hx hb dL_law_209 ?_
  refine va_sld hx hb hX hbl hbA hS hi2 dL_law_210 ?_
  refine jx_ki (wr := wX a cI cL pl cd bs br un ow ki th cm tr tl ch jl bz rw kf) (ws2 := wX a cI cL pl cd bs br un ow ki th cm tr tl ch jl bz rw kf ++ wM g cI cL nl np nt nr nh ns nk ne nw na nf nc ng nx) (jx_runV (As := [.int (xs (nI i + 1).toNatClampNeg), .int (xs (nI i + 2).toNatClampNeg)]) (rest := [.int r]) ⟨hx, hb, hml, hown, hts⟩ (c_X7_reach l D g cI cL nl np nt nr nh ns nk ne nw na nf nc ng nx (xs (nI i + 1).toNatClampNeg) (xs (nI i + 2).toNatClampNeg) r' e2 _) (cwV 2 hts gw_X7_reach rfl rfl rfl (by decide +kernel) ⟨Nat.le_of_ble_eq_true rfl, Nat.le_of_ble_eq_true rfl⟩) hK hN hP hD [16, 17, 18, 19, 20, 21, 22, 23] rfl (by decide) 16 6 rfl rfl rfl hl.1 rfl (Nat.le_of_ble_eq_true rfl) dL_law_211 ⟨Nat.le_of_ble_eq_true rfl, Nat.le_of_ble_eq_true rfl⟩) hP hD hS hA [16, 17, 18, 19, 20, 21, 22, 23] [0, 1, 2, 3, 4, 5, 6, 7, 8, 9, 10, 11, 12, 13, 14, 15] [0, 1, 2, 3, 4, 5, 6, 7, 8, 9, 10, 11, 12, 13, 14, 15, 16, 17, 18, 19, 20, 21, 22, 23] rfl rfl (by decide) (by decide) rfl (by decide) (fun H locs hP hD hS => ?_)
  refine lv_icmp_eq (tgt := 632) hx hb dL_law_214 (by decide) (fun _ => ?_) (fun hq => absurd e3 hq)
  exact K pl cd bs br un ow ki th cm tr tl ch jl bz rw kf nl np nt nr nh ns nk ne nw na nf nc ng nx H locs ls hR' hP hD hS hl
set_option maxHeartbeats 4000000 in
set_option maxRecDepth 100000 in
theorem lc_two {p : Program} {l : Launch} {e : Env} {s : State} {m : MethodId} {below : List Frame} {meth : Method} {c : Code} {D : va_G} {cI cL : ClassId} {a g : Nat → Nat} {b L : Nat} {xs : Nat → Int32} (hL : L ≤ 2048) (C0 : lw_At p s m meth c b L xs) (hK : va_K D vwCl [(cI, .int), (cL, .long)] s) (hN : jx_N s) {k i : Nat} (hk : k < 999) (hi : i + 4 ≤ L) (K : law_G p l e s m below meth c D cI cL a g b 632 (k + 1) (nI i)) : law_G p l e s m below meth c D cI cL a g b 219 k (nI i) := by
  obtain ⟨hx, hb, hr, hml, hown, hts, hX, hbl, hlocks, hgv⟩ := C0
  have hA : ∀ q : Nat, s.heap.size ≤ q → (fun q : Nat => s.heap.size ≤ q) q := fun _ h => h
  have hbA : ¬ (fun q : Nat => s.heap.size ≤ q) b := Nat.not_le.mpr hbl
  intro pl cd bs br un ow ki th cm tr tl ch jl bz rw kf nl np nt nr nh ns nk ne nw na nf nc ng nx H locs ls hR hP hD hS hl
  have hi1 : vp_in (nI i + 1) L := by rw [show nI i + 1 = nI (i + 1) from nI_add i 1]; exact vp_in_nI (by omega) (by omega)
  have hi2 : vp_in (nI i + 2) L := by rw [show nI i + 2 = nI (i + 2) from nI_add i 2]; exact vp_in_nI (by omega) (by omega)
  have hi3 : vp_in (nI i + 3) L := by rw [show nI i + 3 = nI (i + 3) from nI_add i 3]; exact vp_in_nI (by omega) (by omega)
  obtain ⟨r, r', e1, e2, e3, hR'⟩ := s_two hk hR jl rw nw na nf nc ng nx (xs (nI i + 1).toNatClampNeg) (xs (nI i + 2).toNatClampNeg) (xs (nI i + 3).toNatClampNeg)
  refine lv_aload_n hx hb dL_law_219 rfl (lv_at hl 2 rfl) ?_
  refine lv_aload_n hx hb dL_law_220 rfl (lv_at hl 3 rfl) ?_
  refine lv_iload_n hx hb dL_law_221 rfl (lv_at hl 0 rfl) ?_
  refine lv_iconst (v := 1) hx hb dL_law_222 (by decide) ?_
  refine lv_iadd hx hb dL_law_223 ?_
  refine va_sld hx hb hX hbl hbA hS hi1 dL_law_224 ?_
  refine lv_aload_n hx hb dL_law_225 rfl (lv_at hl 3 rfl) ?_
  refine lv_iload_n hx hb dL_law_226 rfl (lv_at hl 0 rfl) ?_
  refine lv_iconst (v := 2) hx hb dL_law_227 (by decide) ?_
  refine lv_iadd hx hb dL_law_228 ?_
  refine va_sld hx hb hX hbl hbA hS hi2 dL_law_229 ?_
  refine lv_aload_n hx hb dL_law_230 rfl (lv_at hl 3 rfl) ?_
  refine lv_iload_n hx hb dL_law_231 rfl (lv_at hl 0 rfl) ?_
  refine lv_iconst (v := 3) hx hb dL_law_232 (by decide) ?_
  refine lv_iadd hx hb dL_law_233 ?_
  refine va_sld hx hb hX hbl hbA hS hi3 dL_law_234 ?_
  refine jx_ki (wr := wM g cI cL nl np nt nr nh ns nk ne nw na nf nc ng nx) (ws2 := wX a cI cL pl cd bs br un ow ki th cm tr tl ch jl bz rw kf ++ wM g cI cL nl np nt nr nh ns nk ne nw na nf nc ng nx) (jx_runV (As := [.int (xs (nI i + 1).toNatClampNeg), .int (xs (nI i + 2).toNatClampNeg), .int (xs (nI i + 3).toNatClampNeg)]) (rest := []) ⟨hx, hb, hml, hown, hts⟩ (c_X6_two l D a cI cL pl cd bs br un ow ki th cm tr tl ch jl bz rw kf (xs (nI i + 1).toNatClampNeg) (xs (nI i + 2).toNatClampNeg) (xs (nI i + 3).toNatClampNeg) r e1 _) (cwV 3 hts gw_X6_two rfl rfl rfl (by decide +kernel) ⟨Nat.le_of_ble_eq_true rfl, Nat.le_of_ble_eq_true rfl⟩) hK hN hP hD [0, 1, 2, 3, 4, 5, 6, 7, 8, 9, 10, 11, 12, 13, 14, 15] rfl (by decide) 0 5 rfl rfl rfl hl.1 rfl (Nat.le_of_ble_eq_true rfl) dL_law_235 ⟨Nat.le_of_ble_eq_true rfl, Nat.le_of_ble_eq_true rfl⟩) hP hD hS hA [0, 1, 2, 3, 4, 5, 6, 7, 8, 9, 10, 11, 12, 13, 14, 15] [16, 17, 18, 19, 20, 21, 22, 23] [8, 9, 10, 11, 12, 13, 14, 15, 16, 17, 18, 19, 20, 21, 22, 23, 0, 1, 2, 3, 4, 5, 6, 7] rfl rfl (by decide) (by decide) rfl (by decide) (fun H locs hP hD hS => ?_)
  refine lv_aload_n hx hb dL_law_238 rfl (lv_at hl 1 rfl) ?_
  refine lv_aload_n hx hb dL_law_239 rfl (lv_at hl 3 rfl) ?_
  refine lv_iload_n hx hb dL_law_240 rfl (lv_at hl 0 rfl) ?_
  refine lv_iconst (v := 1) hx hb dL_law_241 (by decide) ?_
  refine lv_iadd hx hb dL_law_242 ?_
  refine va_sld hx hb hX hbl hbA hS hi1 dL_law_243 ?_
  refine lv_aload_n hx hb dL_law_244 rfl (lv_at hl 3 rfl) ?_
  refine lv_iload_n hx hb dL_law_245 rfl (lv_at hl 0 rfl) ?_
  refine lv_iconst (v := 2) hx hb dL_law_246 (by decide) ?_
  refine lv_iadd hx hb dL_law_247 ?_
  refine va_sld hx hb hX hbl hbA hS hi2 dL_law_248 ?_
  refine lv_aload_n hx hb dL_law_249 rfl (lv_at hl 3 rfl) ?_
  refine lv_iload_n hx hb dL_law_250 rfl (lv_at hl 0 rfl) ?_
  refine lv_iconst (v := 3) hx hb dL_law_251 (by decide) ?_
  refine lv_iadd hx hb dL_law_252 ?_
  refine va_sld hx hb hX hbl hbA hS hi3 dL_law_253 ?_
  refine jx_ki (wr := wX a cI cL pl cd bs br un ow ki th cm tr tl ch jl bz rw kf) (ws2 := wX a cI cL pl cd bs br un ow ki th cm tr tl ch jl bz rw kf ++ wM g cI cL nl np nt r'.2 nh ns nk ne nw na nf nc ng nx) (jx_runV (As := [.int (xs (nI i + 1).toNatClampNeg), .int (xs (nI i + 2).toNatClampNeg), .int (xs (nI i + 3).toNatClampNeg)]) (rest := [.int r]) ⟨hx, hb, hml, hown, hts⟩ (c_X7_two l D g cI cL nl np nt nr nh ns nk ne nw na nf nc ng nx (xs (nI i + 1).toNatClampNeg) (xs (nI i + 2).toNatClampNeg) (xs (nI i + 3).toNatClampNeg) r' e2 _) (cwV 3 hts gw_X7_two rfl rfl rfl (by decide +kernel) ⟨Nat.le_of_ble_eq_true rfl, Nat.le_of_ble_eq_true rfl⟩) hK hN hP hD [16, 17, 18, 19, 20, 21, 22, 23] rfl (by decide) 16 6 rfl rfl rfl hl.1 rfl (Nat.le_of_ble_eq_true rfl) dL_law_254 ⟨Nat.le_of_ble_eq_true rfl, Nat.le_of_ble_eq_true rfl⟩) hP hD hS hA [16, 17, 18, 19, 20, 21, 22, 23] [0, 1, 2, 3, 4, 5, 6, 7, 8, 9, 10, 11, 12, 13, 14, 15] [0, 1, 2, 3, 4, 5, 6, 7, 8, 9, 10, 11, 12, 13, 14, 15, 16, 17, 18, 19, 20, 21, 22, 23] rfl rfl (by decide) (by decide) rfl (by decide) (fun H locs hP hD hS => ?_)
  refine lv_icmp_eq (tgt := 632) hx hb dL_law_257 (by decide) (fun _ => ?_) (fun hq => absurd e3 hq)
  exact K pl cd bs br un ow ki th cm tr tl ch jl bz rw kf nl np nt r'.2 nh ns nk ne nw na nf nc ng nx H locs ls hR' hP hD hS hl
set_option maxHeartbeats 4000000 in
set_option maxRecDepth 100000 in
theorem lc_part {p : Program} {l : Launch} {e : Env} {s : State} {m : MethodId} {below : List Frame} {meth : Method} {c : Code} {D : va_G} {cI cL : ClassId} {a g : Nat → Nat} {b L : Nat} {xs : Nat → Int32} (hL : L ≤ 2048) (C0 : lw_At p s m meth c b L xs) (hK : va_K D vwCl [(cI, .int), (cL, .long)] s) (hN : jx_N s) {k i : Nat} (hk : k < 999) (hi : i + 4 ≤ L) (K : law_G p l e s m below meth c D cI cL a g b 632 (k + 1) (nI i)) : law_G p l e s m below meth c D cI cL a g b 262 k (nI i) := by
  obtain ⟨hx, hb, hr, hml, hown, hts, hX, hbl, hlocks, hgv⟩ := C0
  have hA : ∀ q : Nat, s.heap.size ≤ q → (fun q : Nat => s.heap.size ≤ q) q := fun _ h => h
  have hbA : ¬ (fun q : Nat => s.heap.size ≤ q) b := Nat.not_le.mpr hbl
  intro pl cd bs br un ow ki th cm tr tl ch jl bz rw kf nl np nt nr nh ns nk ne nw na nf nc ng nx H locs ls hR hP hD hS hl
  have hi1 : vp_in (nI i + 1) L := by rw [show nI i + 1 = nI (i + 1) from nI_add i 1]; exact vp_in_nI (by omega) (by omega)
  obtain ⟨r, r', e1, e2, e3, hR'⟩ := s_part hk hR jl rw nw na nf nc ng nx (xs (nI i + 1).toNatClampNeg)
  refine lv_aload_n hx hb dL_law_262 rfl (lv_at hl 2 rfl) ?_
  refine lv_aload_n hx hb dL_law_263 rfl (lv_at hl 3 rfl) ?_
  refine lv_iload_n hx hb dL_law_264 rfl (lv_at hl 0 rfl) ?_
  refine lv_iconst (v := 1) hx hb dL_law_265 (by decide) ?_
  refine lv_iadd hx hb dL_law_266 ?_
  refine va_sld hx hb hX hbl hbA hS hi1 dL_law_267 ?_
  refine jx_ki (wr := wM g cI cL nl np nt nr nh ns nk ne nw na nf nc ng nx) (ws2 := wX a cI cL pl cd bs br r.2.1 r.2.2.1 ki th r.2.2.2.1 r.2.2.2.2.1 tl r.2.2.2.2.2 jl bz rw kf ++ wM g cI cL nl np nt nr nh ns nk ne nw na nf nc ng nx) (jx_runV (As := [.int (xs (nI i + 1).toNatClampNeg)]) (rest := []) ⟨hx, hb, hml, hown, hts⟩ (c_X6_part l D a cI cL pl cd bs br un ow ki th cm tr tl ch jl bz rw kf (xs (nI i + 1).toNatClampNeg) r e1 _) (cwV 1 hts gw_X6_part rfl rfl rfl (by decide +kernel) ⟨Nat.le_of_ble_eq_true rfl, Nat.le_of_ble_eq_true rfl⟩) hK hN hP hD [0, 1, 2, 3, 4, 5, 6, 7, 8, 9, 10, 11, 12, 13, 14, 15] rfl (by decide) 0 5 rfl rfl rfl hl.1 rfl (Nat.le_of_ble_eq_true rfl) dL_law_268 ⟨Nat.le_of_ble_eq_true rfl, Nat.le_of_ble_eq_true rfl⟩) hP hD hS hA [0, 1, 2, 3, 4, 5, 6, 7, 8, 9, 10, 11, 12, 13, 14, 15] [16, 17, 18, 19, 20, 21, 22, 23] [8, 9, 10, 11, 12, 13, 14, 15, 16, 17, 18, 19, 20, 21, 22, 23, 0, 1, 2, 3, 4, 5, 6, 7] rfl rfl (by decide) (by decide) rfl (by decide) (fun H locs hP hD hS => ?_)
  refine lv_aload_n hx hb dL_law_271 rfl (lv_at hl 1 rfl) ?_
  refine lv_aload_n hx hb dL_law_272 rfl (lv_at hl 3 rfl) ?_
  refine lv_iload_n hx hb dL_law_273 rfl (lv_at hl 0 rfl) ?_
  refine lv_iconst (v := 1) hx hb dL_law_274 (by decide) ?_
  refine lv_iadd hx hb dL_law_275 ?_
  refine va_sld hx hb hX hbl hbA hS hi1 dL_law_276 ?_
  refine jx_ki (wr := wX a cI cL pl cd bs br r.2.1 r.2.2.1 ki th r.2.2.2.1 r.2.2.2.2.1 tl r.2.2.2.2.2 jl bz rw kf) (ws2 := wX a cI cL pl cd bs br r.2.1 r.2.2.1 ki th r.2.2.2.1 r.2.2.2.2.1 tl r.2.2.2.2.2 jl bz rw kf ++ wM g cI cL nl np nt nr r'.2.1 r'.2.2.1 r'.2.2.2 ne nw na nf nc ng nx) (jx_runV (As := [.int (xs (nI i + 1).toNatClampNeg)]) (rest := [.int r.1]) ⟨hx, hb, hml, hown, hts⟩ (c_X7_part l D g cI cL nl np nt nr nh ns nk ne nw na nf nc ng nx (xs (nI i + 1).toNatClampNeg) r' e2 _) (cwV 1 hts gw_X7_part rfl rfl rfl (by decide +kernel) ⟨Nat.le_of_ble_eq_true rfl, Nat.le_of_ble_eq_true rfl⟩) hK hN hP hD [16, 17, 18, 19, 20, 21, 22, 23] rfl (by decide) 16 6 rfl rfl rfl hl.1 rfl (Nat.le_of_ble_eq_true rfl) dL_law_277 ⟨Nat.le_of_ble_eq_true rfl, Nat.le_of_ble_eq_true rfl⟩) hP hD hS hA [16, 17, 18, 19, 20, 21, 22, 23] [0, 1, 2, 3, 4, 5, 6, 7, 8, 9, 10, 11, 12, 13, 14, 15] [0, 1, 2, 3, 4, 5, 6, 7, 8, 9, 10, 11, 12, 13, 14, 15, 16, 17, 18, 19, 20, 21, 22, 23] rfl rfl (by decide) (by decide) rfl (by decide) (fun H locs hP hD hS => ?_)
  refine lv_icmp_eq (tgt := 632) hx hb dL_law_280 (by decide) (fun _ => ?_) (fun hq => absurd e3 hq)
  exact K pl cd bs br r.2.1 r.2.2.1 ki th r.2.2.2.1 r.2.2.2.2.1 tl r.2.2.2.2.2 jl bz rw kf nl np nt nr r'.2.1 r'.2.2.1 r'.2.2.2 ne nw na nf nc ng nx H locs ls hR' hP hD hS hl
