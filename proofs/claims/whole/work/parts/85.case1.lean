/-! the calls of the law, one by one -/
set_option maxHeartbeats 4000000 in
set_option maxRecDepth 100000 in
theorem lc_letter {p : Program} {l : Launch} {e : Env} {s : State} {m : MethodId} {below : List Frame} {meth : Method} {c : Code} {D : va_G} {cI cL : ClassId} {a g : Nat → Nat} {b L : Nat} {xs : Nat → Int32} (hL : L ≤ 2048) (C0 : lw_At p s m meth c b L xs) (hK : va_K D vwCl [(cI, .int), (cL, .long)] s) (hN : jx_N s) {k i : Nat} (hk : k < 999) (hi : i + 4 ≤ L) (K : law_G p l e s m below meth c D cI cL a g b 632 (k + 1) (nI i)) : law_G p l e s m below meth c D cI cL a g b 124 k (nI i) := by
  obtain ⟨hx, hb, hr, hml, hown, hts, hX, hbl, hlocks, hgv⟩ := C0
  have hA : ∀ q : Nat, s.heap.size ≤ q → (fun q : Nat => s.heap.size ≤ q) q := fun _ h => h
  have hbA : ¬ (fun q : Nat => s.heap.size ≤ q) b := Nat.not_le.mpr hbl
  intro pl cd bs br un ow ki th cm tr tl ch jl bz rw kf nl np nt nr nh ns nk ne nw na nf nc ng nx H locs ls hR hP hD hS hl
  have hi1 : vp_in (nI i + 1) L := by rw [show nI i + 1 = nI (i + 1) from nI_add i 1]; exact vp_in_nI (by omega) (by omega)
  obtain ⟨r, r', e1, e2, e3, hR'⟩ := s_letter hk hR jl rw nw na nf nc ng nx (xs (nI i + 1).toNatClampNeg)
  refine lv_aload_n hx hb dL_law_124 rfl (lv_at hl 2 rfl) ?_
  refine lv_aload_n hx hb dL_law_125 rfl (lv_at hl 3 rfl) ?_
  refine lv_iload_n hx hb dL_law_126 rfl (lv_at hl 0 rfl) ?_
  refine lv_iconst (v := 1) hx hb dL_law_127 (by decide) ?_
  refine lv_iadd hx hb dL_law_128 ?_
  refine va_sld hx hb hX hbl hbA hS hi1 dL_law_129 ?_
  refine jx_ki (wr := wM g cI cL nl np nt nr nh ns nk ne nw na nf nc ng nx) (ws2 := wX a cI cL r.2.1 r.2.2 bs br un ow ki th cm tr tl ch jl bz rw kf ++ wM g cI cL nl np nt nr nh ns nk ne nw na nf nc ng nx) (jx_runV (As := [.int (xs (nI i + 1).toNatClampNeg)]) (rest := []) ⟨hx, hb, hml, hown, hts⟩ (c_X6_letter l D a cI cL pl cd bs br un ow ki th cm tr tl ch jl bz rw kf (xs (nI i + 1).toNatClampNeg) r e1 _) (cwV 1 hts gw_X6_letter rfl rfl rfl (by decide +kernel) ⟨Nat.le_of_ble_eq_true rfl, Nat.le_of_ble_eq_true rfl⟩) hK hN hP hD [0, 1, 2, 3, 4, 5, 6, 7, 8, 9, 10, 11, 12, 13, 14, 15] rfl (by decide) 0 5 rfl rfl rfl hl.1 rfl (Nat.le_of_ble_eq_true rfl) dL_law_130 ⟨Nat.le_of_ble_eq_true rfl, Nat.le_of_ble_eq_true rfl⟩) hP hD hS hA [0, 1, 2, 3, 4, 5, 6, 7, 8, 9, 10, 11, 12, 13, 14, 15] [16, 17, 18, 19, 20, 21, 22, 23] [8, 9, 10, 11, 12, 13, 14, 15, 16, 17, 18, 19, 20, 21, 22, 23, 0, 1, 2, 3, 4, 5, 6, 7] rfl rfl (by decide) (by decide) rfl (by decide) (fun H locs hP hD hS => ?_)
  refine lv_aload_n hx hb dL_law_133 rfl (lv_at hl 1 rfl) ?_
  refine lv_aload_n hx hb dL_law_134 rfl (lv_at hl 3 rfl) ?_
  refine lv_iload_n hx hb dL_law_135 rfl (lv_at hl 0 rfl) ?_
  refine lv_iconst (v := 1) hx hb dL_law_136 (by decide) ?_
  refine lv_iadd hx hb dL_law_137 ?_
  refine va_sld hx hb hX hbl hbA hS hi1 dL_law_138 ?_
  refine jx_ki (wr := wX a cI cL r.2.1 r.2.2 bs br un ow ki th cm tr tl ch jl bz rw kf) (ws2 := wX a cI cL r.2.1 r.2.2 bs br un ow ki th cm tr tl ch jl bz rw kf ++ wM g cI cL r'.2.1 r'.2.2 nt nr nh ns nk ne nw na nf nc ng nx) (jx_runV (As := [.int (xs (nI i + 1).toNatClampNeg)]) (rest := [.int r.1]) ⟨hx, hb, hml, hown, hts⟩ (c_X7_letter l D g cI cL nl np nt nr nh ns nk ne nw na nf nc ng nx (xs (nI i + 1).toNatClampNeg) r' e2 _) (cwV 1 hts gw_X7_letter rfl rfl rfl (by decide +kernel) ⟨Nat.le_of_ble_eq_true rfl, Nat.le_of_ble_eq_true rfl⟩) hK hN hP hD [16, 17, 18, 19, 20, 21, 22, 23] rfl (by decide) 16 6 rfl rfl rfl hl.1 rfl (Nat.le_of_ble_eq_true rfl) dL_law_139 ⟨Nat.le_of_ble_eq_true rfl, Nat.le_of_ble_eq_true rfl⟩) hP hD hS hA [16, 17, 18, 19, 20, 21, 22, 23] [0, 1, 2, 3, 4, 5, 6, 7, 8, 9, 10, 11, 12, 13, 14, 15] [0, 1, 2, 3, 4, 5, 6, 7, 8, 9, 10, 11, 12, 13, 14, 15, 16, 17, 18, 19, 20, 21, 22, 23] rfl rfl (by decide) (by decide) rfl (by decide) (fun H locs hP hD hS => ?_)
  refine lv_icmp_eq (tgt := 632) hx hb dL_law_142 (by decide) (fun _ => ?_) (fun hq => absurd e3 hq)
  exact K r.2.1 r.2.2 bs br un ow ki th cm tr tl ch jl bz rw kf r'.2.1 r'.2.2 nt nr nh ns nk ne nw na nf nc ng nx H locs ls hR' hP hD hS hl
set_option maxHeartbeats 4000000 in
set_option maxRecDepth 100000 in
theorem lc_blank {p : Program} {l : Launch} {e : Env} {s : State} {m : MethodId} {below : List Frame} {meth : Method} {c : Code} {D : va_G} {cI cL : ClassId} {a g : Nat → Nat} {b L : Nat} {xs : Nat → Int32} (hL : L ≤ 2048) (C0 : lw_At p s m meth c b L xs) (hK : va_K D vwCl [(cI, .int), (cL, .long)] s) (hN : jx_N s) {k i : Nat} (hk : k < 999) (hi : i + 4 ≤ L) (K : law_G p l e s m below meth c D cI cL a g b 632 (k + 1) (nI i)) : law_G p l e s m below meth c D cI cL a g b 147 k (nI i) := by
  obtain ⟨hx, hb, hr, hml, hown, hts, hX, hbl, hlocks, hgv⟩ := C0
  have hA : ∀ q : Nat, s.heap.size ≤ q → (fun q : Nat => s.heap.size ≤ q) q := fun _ h => h
  have hbA : ¬ (fun q : Nat => s.heap.size ≤ q) b := Nat.not_le.mpr hbl
  intro pl cd bs br un ow ki th cm tr tl ch jl bz rw kf nl np nt nr nh ns nk ne nw na nf nc ng nx H locs ls hR hP hD hS hl
  obtain ⟨r, r', e1, e2, e3, hR'⟩ := s_blank hk hR jl rw nw na nf nc ng nx 
  refine lv_aload_n hx hb dL_law_147 rfl (lv_at hl 2 rfl) ?_
  refine jx_ki (wr := wM g cI cL nl np nt nr nh ns nk ne nw na nf nc ng nx) (ws2 := wX a cI cL r.2 cd bs br un ow ki th cm tr tl ch jl bz rw kf ++ wM g cI cL nl np nt nr nh ns nk ne nw na nf nc ng nx) (jx_runV (As := []) (rest := []) ⟨hx, hb, hml, hown, hts⟩ (c_X6_blank l D a cI cL pl cd bs br un ow ki th cm tr tl ch jl bz rw kf  r e1 _) (cwV 0 hts gw_X6_blank rfl rfl rfl (by decide +kernel) ⟨Nat.le_of_ble_eq_true rfl, Nat.le_of_ble_eq_true rfl⟩) hK hN hP hD [0, 1, 2, 3, 4, 5, 6, 7, 8, 9, 10, 11, 12, 13, 14, 15] rfl (by decide) 0 5 rfl rfl rfl hl.1 rfl (Nat.le_of_ble_eq_true rfl) dL_law_148 ⟨Nat.le_of_ble_eq_true rfl, Nat.le_of_ble_eq_true rfl⟩) hP hD hS hA [0, 1, 2, 3, 4, 5, 6, 7, 8, 9, 10, 11, 12, 13, 14, 15] [16, 17, 18, 19, 20, 21, 22, 23] [8, 9, 10, 11, 12, 13, 14, 15, 16, 17, 18, 19, 20, 21, 22, 23, 0, 1, 2, 3, 4, 5, 6, 7] rfl rfl (by decide) (by decide) rfl (by decide) (fun H locs hP hD hS => ?_)
  refine lv_aload_n hx hb dL_law_151 rfl (lv_at hl 1 rfl) ?_
  refine jx_ki (wr := wX a cI cL r.2 cd bs br un ow ki th cm tr tl ch jl bz rw kf) (ws2 := wX a cI cL r.2 cd bs br un ow ki th cm tr tl ch jl bz rw kf ++ wM g cI cL r'.2 np nt nr nh ns nk ne nw na nf nc ng nx) (jx_runV (As := []) (rest := [.int r.1]) ⟨hx, hb, hml, hown, hts⟩ (c_X7_blank l D g cI cL nl np nt nr nh ns nk ne nw na nf nc ng nx  r' e2 _) (cwV 0 hts gw_X7_blank rfl rfl rfl (by decide +kernel) ⟨Nat.le_of_ble_eq_true rfl, Nat.le_of_ble_eq_true rfl⟩) hK hN hP hD [16, 17, 18, 19, 20, 21, 22, 23] rfl (by decide) 16 6 rfl rfl rfl hl.1 rfl (Nat.le_of_ble_eq_true rfl) dL_law_152 ⟨Nat.le_of_ble_eq_true rfl, Nat.le_of_ble_eq_true rfl⟩) hP hD hS hA [16, 17, 18, 19, 20, 21, 22, 23] [0, 1, 2, 3, 4, 5, 6, 7, 8, 9, 10, 11, 12, 13, 14, 15] [0, 1, 2, 3, 4, 5, 6, 7, 8, 9, 10, 11, 12, 13, 14, 15, 16, 17, 18, 19, 20, 21, 22, 23] rfl rfl (by decide) (by decide) rfl (by decide) (fun H locs hP hD hS => ?_)
  refine lv_icmp_eq (tgt := 632) hx hb dL_law_155 (by decide) (fun _ => ?_) (fun hq => absurd e3 hq)
  exact K r.2 cd bs br un ow ki th cm tr tl ch jl bz rw kf r'.2 np nt nr nh ns nk ne nw na nf nc ng nx H locs ls hR' hP hD hS hl
