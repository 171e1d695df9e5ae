theorem iw_X6_blank_X6 : ∀ w ∈ wsX60, w ∈ wsX6_blank := by decide +kernel
set_option maxHeartbeats 4000000 in
set_option maxRecDepth 100000 in
theorem c_X6_blank (l : Launch) (D : va_G) (a : Nat → Nat) (cI cL : ClassId) (pl : Int32) (cd : (Nat → Int32)) (bs : Int32) (br : (Nat → Int64)) (un : (Nat → Int32)) (ow : (Nat → Int64)) (ki : (Nat → Int32)) (th : (Nat → Int64)) (cm : (Nat → Int64)) (tr : Int32) (tl : Int32) (ch : Int32) (jl : (Nat → Int32)) (bz : (Nat → Int64)) (rw : (Nat → Int64)) (kf : Int32) (res : (Int32 × Int32)) (hf : pf_X6_blank pl = some res) : jMi l yX6_blank wsX6_blank ({ frames := 1, cells := 0, slots := 0, locals := 21 }) D [(cI, .int), (cL, .long)] [.ref (a 0)] (wX a cI cL pl cd bs br un ow ki th cm tr tl ch jl bz rw kf) res.1 (wX a cI cL res.2 cd bs br un ow ki th cm tr tl ch jl bz rw kf) := by
  intro sz
  refine Met.ofW (cc := cX6_blank) (maxL := 1) (ret := (some .int)) (by decide) rfl ?_
  intro p e s m args below meth c s₁ B hml hv
  obtain ⟨rfl, hsz, hP, hK, hD0, hN⟩ := hv
  have hx := B.exec
  have hb := B.bytes
  have hr := B.returns
  have hts := atoms_spec (ws := wsX6_blank) B.pre
  have hown : s.vm.findClass RX6 = some m.cls := findClass_of_methodNamed B.named
  have hlocks := B.notSynchronized
  subst hsz
  have hD := hD0.self (sz := s.heap.size)
  generalize hAe : va_A (wX a cI cL pl cd bs br un ow ki th cm tr tl ch jl bz rw kf) s.heap.size = A at hD ⊢
  have hA : ∀ q : Nat, s.heap.size ≤ q → A q := fun q h => by rw [← hAe]; exact Or.inr h
  have hS : va_S A s.heap s.heap [] := va_S.rf
  have hl := lv_entry ([.ref (a 0)]) (n := 1) (Nat.le_of_ble_eq_true rfl)
  rw [lg_entry_eq]
  generalize (lg_sl ([.ref (a 0)]) ++ List.replicate (1 - (lg_sl ([.ref (a 0)])).length) Slot.unset).toArray = ls at hl ⊢
  have hl : lv_has ls 1 [(0, .ref (a 0))] := hl
  have hf : pf_X6_blank pl = some res := hf
  refine lv_aload_n hx hb dX6_blank_0 rfl (lv_at hl 0 rfl) ?_
  refine va_get (D := D) (ci := 5) (v := .ref (a 1)) (C := RX6) (T := TX6) (N := 5) hx hb hts iw_X6_blank_X6 hown hK hP 0 rfl rfl 0 (by decide) (hts (.fieldLink RX6 12 "PassedDuties" "page" "LPassedDuties$Page;") (by decide +kernel)) (fun _ h9 => h9) rfl dX6_blank_1 ?_
  obtain ⟨r1, hc, hf⟩ := jx_bs hf
  refine jx_ki (wr := [((a 0), .inr (5, [.ref (a 1), .ref (a 3), .ref (a 5), .ref (a 11), .ref (a 13)])), ((a 3), .inr (0, [.ref (a 4), .int bs])), ((a 4), .inl (cL, 8, .inr (.inl br))), ((a 5), .inr (3, [.ref (a 6), .ref (a 7), .ref (a 8), .ref (a 9), .ref (a 10), .int tr, .int tl, .int ch])), ((a 6), .inl (cI, 8, .inl un)), ((a 7), .inl (cL, 8, .inr (.inl ow))), ((a 8), .inl (cI, 64, .inl ki)), ((a 9), .inl (cL, 64, .inr (.inl th))), ((a 10), .inl (cL, 8, .inr (.inl cm))), ((a 11), .inr (4, [.ref (a 5), .ref (a 12)])), ((a 12), .inl (cI, 8, .inl jl)), ((a 13), .inr (1, [.ref (a 5), .ref (a 14), .ref (a 15), .int kf])), ((a 14), .inl (cL, 256, .inr (.inl bz))), ((a 15), .inl (cL, 8, .inr (.inl rw)))]) (ws2 := (wX a cI cL r1.2 cd bs br un ow ki th cm tr tl ch jl bz rw kf)) (jx_runV (As := []) (rest := []) ⟨hx, hb, hml, hown, hts⟩ (c_X2_wipe l D a cI cL pl cd r1 hc _) (cwV 0 hts gX6_blank_X2_wipe rfl rfl rfl (by decide +kernel) ⟨Nat.le_of_ble_eq_true rfl, Nat.le_of_ble_eq_true rfl⟩) hK hN hP hD [1, 2] rfl (by decide) 1 2 rfl rfl rfl hl.1 rfl (Nat.le_of_ble_eq_true rfl) dX6_blank_4 ⟨Nat.le_of_ble_eq_true rfl, Nat.le_of_ble_eq_true rfl⟩) hP hD hS hA [1, 2] [0, 3, 4, 5, 6, 7, 8, 9, 10, 11, 12, 13, 14, 15] [0, 14, 15, 1, 2, 3, 4, 5, 6, 7, 8, 9, 10, 11, 12, 13] rfl rfl (by decide) (by decide) rfl (by decide) (fun H locs hP hD hS => ?_)
  clear hc
  have he := jx_eq hf
  subst he
  exact jx_reti hx hb hr hlocks rfl hK hP hD hS dX6_blank_7
theorem iw_X6_cause_X6 : ∀ w ∈ wsX60, w ∈ wsX6_cause := by decide +kernel
set_option maxHeartbeats 4000000 in
set_option maxRecDepth 100000 in
theorem c_X6_cause (l : Launch) (D : va_G) (a : Nat → Nat) (cI cL : ClassId) (pl : Int32) (cd : (Nat → Int32)) (bs : Int32) (br : (Nat → Int64)) (un : (Nat → Int32)) (ow : (Nat → Int64)) (ki : (Nat → Int32)) (th : (Nat → Int64)) (cm : (Nat → Int64)) (tr : Int32) (tl : Int32) (ch : Int32) (jl : (Nat → Int32)) (bz : (Nat → Int64)) (rw : (Nat → Int64)) (kf : Int32) (p0 : Int32) (p1 : Int32) (res : (Int32 × (Nat → Int64) × (Nat → Int64) × Int32)) (hf : pf_X6_cause ow th cm tr ch bz rw kf p0 p1 = some res) : jMi l yX6_cause wsX6_cause ({ frames := 5, cells := 0, slots := 0, locals := 110 }) D [(cI, .int), (cL, .long)] [.ref (a 0), .int p0, .int p1] (wX a cI cL pl cd bs br un ow ki th cm tr tl ch jl bz rw kf) res.1 (wX a cI cL pl cd bs br un ow ki th cm tr tl ch jl res.2.1 res.2.2.1 res.2.2.2) := by
  intro sz
  refine Met.ofW (cc := cX6_cause) (maxL := 3) (ret := (some .int)) (by decide) rfl ?_
  intro p e s m args below meth c s₁ B hml hv
  obtain ⟨rfl, hsz, hP, hK, hD0, hN⟩ := hv
  have hx := B.exec
  have hb := B.bytes
  have hr := B.returns
  have hts := atoms_spec (ws := wsX6_cause) B.pre
  have hown : s.vm.findClass RX6 = some m.cls := findClass_of_methodNamed B.named
  have hlocks := B.notSynchronized
  subst hsz
  have hD := hD0.self (sz := s.heap.size)
  generalize hAe : va_A (wX a cI cL pl cd bs br un ow ki th cm tr tl ch jl bz rw kf) s.heap.size = A at hD ⊢
  have hA : ∀ q : Nat, s.heap.size ≤ q → A q := fun q h => by rw [← hAe]; exact Or.inr h
  have hS : va_S A s.heap s.heap [] := va_S.rf
  have hl := lv_entry ([.ref (a 0), .int p0, .int p1]) (n := 3) (Nat.le_of_ble_eq_true rfl)
  rw [lg_entry_eq]
  generalize (lg_sl ([.ref (a 0), .int p0, .int p1]) ++ List.replicate (3 - (lg_sl ([.ref (a 0), .int p0, .int p1])).length) Slot.unset).toArray = ls at hl ⊢
  have hl : lv_has ls 3 [(0, .ref (a 0)), (1, .int p0), (2, .int p1)] := hl
  have hf : pf_X6_cause ow th cm tr ch bz rw kf p0 p1 = some res := hf
  refine lv_aload_n hx hb dX6_cause_0 rfl (lv_at hl 0 rfl) ?_
  refine va_get (D := D) (ci := 5) (v := .ref (a 5)) (C := RX6) (T := TX6) (N := 5) hx hb hts iw_X6_cause_X6 hown hK hP 0 rfl rfl 2 (by decide) (hts (.fieldLink RX6 26 "PassedDuties" "parts" "LPassedDuties$Parts;") (by decide +kernel)) (fun _ h9 => h9) rfl dX6_cause_1 ?_
  refine lv_iload_n hx hb dX6_cause_4 rfl (lv_at hl 1 rfl) ?_
  obtain ⟨r1, hc, hf⟩ := jx_bs hf
  refine jx_ki (wr := [((a 0), .inr (5, [.ref (a 1), .ref (a 3), .ref (a 5), .ref (a 11), .ref (a 13)])), ((a 1), .inr (2, [.ref (a 2), .int pl])), ((a 2), .inl (cI, 24, .inl cd)), ((a 3), .inr (0, [.ref (a 4), .int bs])), ((a 4), .inl (cL, 8, .inr (.inl br))), ((a 11), .inr (4, [.ref (a 5), .ref (a 12)])), ((a 12), .inl (cI, 8, .inl jl)), ((a 13), .inr (1, [.ref (a 5), .ref (a 14), .ref (a 15), .int kf])), ((a 14), .inl (cL, 256, .inr (.inl bz))), ((a 15), .inl (cL, 8, .inr (.inl rw)))]) (ws2 := (wX a cI cL pl cd bs br un ow ki th cm tr tl ch jl bz rw kf)) (jx_runV (As := [.int p0]) (rest := []) ⟨hx, hb, hml, hown, hts⟩ (c_X3_has l D a cI cL un ow ki th cm tr tl ch p0 r1 hc _) (cwV 1 hts gX6_cause_X3_has rfl rfl rfl (by decide +kernel) ⟨Nat.le_of_ble_eq_true rfl, Nat.le_of_ble_eq_true rfl⟩) hK hN hP hD [5, 6, 7, 8, 9, 10] rfl (by decide) 5 3 rfl rfl rfl hl.1 rfl (Nat.le_of_ble_eq_true rfl) dX6_cause_5 ⟨Nat.le_of_ble_eq_true rfl, Nat.le_of_ble_eq_true rfl⟩) hP hD hS hA [5, 6, 7, 8, 9, 10] [0, 1, 2, 3, 4, 11, 12, 13, 14, 15] [0, 1, 2, 3, 4, 10, 11, 12, 13, 14, 15, 5, 6, 7, 8, 9] rfl rfl (by decide) (by decide) rfl (by decide) (fun H locs hP hD hS => ?_)
  clear hc
  refine lv_if_ne (tgt := 15) hx hb dX6_cause_8 (by decide) (fun hq => ?_) (fun hq => ?_)
  · replace hf := jx_pos hq hf
    refine lv_iload_n hx hb dX6_cause_15 rfl (lv_at hl 2 rfl) ?_
    refine lv_if_lt (tgt := 41) hx hb dX6_cause_16 (by decide) (fun hq => ?_) (fun hq => ?_)
    · replace hf := jx_pos hq hf
      refine lv_sipush (v := -1002) hx hb dX6_cause_41 (by decide) ?_
      have he := jx_eq hf
      subst he
      exact jx_reti hx hb hr hlocks rfl hK hP hD hS dX6_cause_44
    · replace hf := jx_neg hq hf
      refine lv_iload_n hx hb dX6_cause_19 rfl (lv_at hl 2 rfl) ?_
      refine lv_bipush (v := 6) hx hb dX6_cause_20 (by decide) ?_
      refine lv_icmp_ge (tgt := 41) hx hb dX6_cause_22 (by decide) (fun hq => ?_) (fun hq => ?_)
      · replace hf := jx_pos hq hf
        refine lv_sipush (v := -1002) hx hb dX6_cause_41 (by decide) ?_
        have he := jx_eq hf
        subst he
        exact jx_reti hx hb hr hlocks rfl hK hP hD hS dX6_cause_44
      · replace hf := jx_neg hq hf
        refine lv_aload_n hx hb dX6_cause_25 rfl (lv_at hl 0 rfl) ?_
        refine va_get (D := D) (ci := 5) (v := .ref (a 13)) (C := RX6) (T := TX6) (N := 5) hx hb hts iw_X6_cause_X6 hown hK hP 0 rfl rfl 4 (by decide) (hts (.fieldLink RX6 42 "PassedDuties" "clashes" "LPassedDuties$Clashes;") (by decide +kernel)) (fun _ h9 => h9) rfl dX6_cause_26 ?_
        refine lv_iload_n hx hb dX6_cause_29 rfl (lv_at hl 1 rfl) ?_
        refine lv_bipush (v := 6) hx hb dX6_cause_30 (by decide) ?_
        refine lv_imul hx hb dX6_cause_32 ?_
        refine lv_iload_n hx hb dX6_cause_33 rfl (lv_at hl 2 rfl) ?_
        refine lv_iadd hx hb dX6_cause_34 ?_
        obtain ⟨r2, hc, hf⟩ := jx_bs hf
        refine jx_ki (wr := [((a 0), .inr (5, [.ref (a 1), .ref (a 3), .ref (a 5), .ref (a 11), .ref (a 13)])), ((a 1), .inr (2, [.ref (a 2), .int pl])), ((a 2), .inl (cI, 24, .inl cd)), ((a 3), .inr (0, [.ref (a 4), .int bs])), ((a 4), .inl (cL, 8, .inr (.inl br))), ((a 11), .inr (4, [.ref (a 5), .ref (a 12)])), ((a 12), .inl (cI, 8, .inl jl))]) (ws2 := (wX a cI cL pl cd bs br un ow ki th cm tr tl ch jl r2.2.1 r2.2.2.1 r2.2.2.2)) (jx_runV (As := [.int ((p0 * (6 : Int32)) + p1)]) (rest := []) ⟨hx, hb, hml, hown, hts⟩ (c_X1_fewestFor l D a cI cL un ow ki th cm tr tl ch bz rw kf ((p0 * (6 : Int32)) + p1) r2 hc _) (cwV 1 hts gX6_cause_X1_fewestFor rfl rfl rfl (by decide +kernel) ⟨Nat.le_of_ble_eq_true rfl, Nat.le_of_ble_eq_true rfl⟩) hK hN hP hD [13, 14, 15, 5, 6, 7, 8, 9, 10] rfl (by decide) 13 1 rfl rfl rfl hl.1 rfl (Nat.le_of_ble_eq_true rfl) dX6_cause_35 ⟨Nat.le_of_ble_eq_true rfl, Nat.le_of_ble_eq_true rfl⟩) hP hD hS hA [13, 14, 15, 5, 6, 7, 8, 9, 10] [0, 1, 2, 3, 4, 11, 12] [0, 1, 2, 3, 4, 10, 11, 12, 13, 14, 15, 5, 6, 7, 8, 9] rfl rfl (by decide) (by decide) rfl (by decide) (fun H locs hP hD hS => ?_)
        clear hc
        refine lv_goto (tgt := 44) hx hb dX6_cause_38 (by decide) ?_
        have he := jx_eq hf
        subst he
        exact jx_reti hx hb hr hlocks rfl hK hP hD hS dX6_cause_44
  · replace hf := jx_negn hq hf
    refine lv_sipush (v := -1001) hx hb dX6_cause_11 (by decide) ?_
    have he := jx_eq hf
    subst he
    exact jx_reti hx hb hr hlocks rfl hK hP hD hS dX6_cause_14
theorem iw_X6_clash_X6 : ∀ w ∈ wsX60, w ∈ wsX6_clash := by decide +kernel
set_option maxHeartbeats 4000000 in
set_option maxRecDepth 100000 in
theorem c_X6_clash (l : Launch) (D : va_G) (a : Nat → Nat) (cI cL : ClassId) (pl : Int32) (cd : (Nat → Int32)) (bs : Int32) (br : (Nat → Int64)) (un : (Nat → Int32)) (ow : (Nat → Int64)) (ki : (Nat → Int32)) (th : (Nat → Int64)) (cm : (Nat → Int64)) (tr : Int32) (tl : Int32) (ch : Int32) (jl : (Nat → Int32)) (bz : (Nat → Int64)) (rw : (Nat → Int64)) (kf : Int32) (p0 : Int32) (res : Int32) (hf : pf_X6_clash cm p0 = some res) : jMi l yX6_clash wsX6_clash ({ frames := 5, cells := 0, slots := 0, locals := 111 }) D [(cI, .int), (cL, .long)] [.ref (a 0), .int p0] (wX a cI cL pl cd bs br un ow ki th cm tr tl ch jl bz rw kf) res (wX a cI cL pl cd bs br un ow ki th cm tr tl ch jl bz rw kf) := by
  intro sz
  refine Met.ofW (cc := cX6_clash) (maxL := 3) (ret := (some .int)) (by decide) rfl ?_
  intro p e s m args below meth c s₁ B hml hv
  obtain ⟨rfl, hsz, hP, hK, hD0, hN⟩ := hv
  have hx := B.exec
  have hb := B.bytes
  have hr := B.returns
  have hts := atoms_spec (ws := wsX6_clash) B.pre
  have hown : s.vm.findClass RX6 = some m.cls := findClass_of_methodNamed B.named
  have hlocks := B.notSynchronized
  subst hsz
  have hD := hD0.self (sz := s.heap.size)
  generalize hAe : va_A (wX a cI cL pl cd bs br un ow ki th cm tr tl ch jl bz rw kf) s.heap.size = A at hD ⊢
  have hA : ∀ q : Nat, s.heap.size ≤ q → A q := fun q h => by rw [← hAe]; exact Or.inr h
  have hS : va_S A s.heap s.heap [] := va_S.rf
  have hl := lv_entry ([.ref (a 0), .int p0]) (n := 3) (Nat.le_of_ble_eq_true rfl)
  rw [lg_entry_eq]
  generalize (lg_sl ([.ref (a 0), .int p0]) ++ List.replicate (3 - (lg_sl ([.ref (a 0), .int p0])).length) Slot.unset).toArray = ls at hl ⊢
  have hl : lv_has ls 3 [(0, .ref (a 0)), (1, .int p0)] := hl
  have hf : pf_X6_clash cm p0 = some res := hf
  refine lv_aload_n hx hb dX6_clash_0 rfl (lv_at hl 0 rfl) ?_
  refine va_get (D := D) (ci := 5) (v := .ref (a 13)) (C := RX6) (T := TX6) (N := 5) hx hb hts iw_X6_clash_X6 hown hK hP 0 rfl rfl 4 (by decide) (hts (.fieldLink RX6 42 "PassedDuties" "clashes" "LPassedDuties$Clashes;") (by decide +kernel)) (fun _ h9 => h9) rfl dX6_clash_1 ?_
  refine lv_iload_n hx hb dX6_clash_4 rfl (lv_at hl 1 rfl) ?_
  obtain ⟨r1, hc, hf⟩ := jx_bs hf
  refine jx_ki (wr := [((a 0), .inr (5, [.ref (a 1), .ref (a 3), .ref (a 5), .ref (a 11), .ref (a 13)])), ((a 1), .inr (2, [.ref (a 2), .int pl])), ((a 2), .inl (cI, 24, .inl cd)), ((a 3), .inr (0, [.ref (a 4), .int bs])), ((a 4), .inl (cL, 8, .inr (.inl br))), ((a 11), .inr (4, [.ref (a 5), .ref (a 12)])), ((a 12), .inl (cI, 8, .inl jl))]) (ws2 := (wX a cI cL pl cd bs br un ow ki th cm tr tl ch jl bz rw kf)) (jx_runV (As := [.int p0]) (rest := []) ⟨hx, hb, hml, hown, hts⟩ (c_X1_at l D a cI cL un ow ki th cm tr tl ch bz rw kf p0 r1 hc _) (cwV 1 hts gX6_clash_X1_at rfl rfl rfl (by decide +kernel) ⟨Nat.le_of_ble_eq_true rfl, Nat.le_of_ble_eq_true rfl⟩) hK hN hP hD [13, 14, 15, 5, 6, 7, 8, 9, 10] rfl (by decide) 13 1 rfl rfl rfl hl.1 rfl (Nat.le_of_ble_eq_true rfl) dX6_clash_5 ⟨Nat.le_of_ble_eq_true rfl, Nat.le_of_ble_eq_true rfl⟩) hP hD hS hA [13, 14, 15, 5, 6, 7, 8, 9, 10] [0, 1, 2, 3, 4, 11, 12] [0, 1, 2, 3, 4, 10, 11, 12, 13, 14, 15, 5, 6, 7, 8, 9] rfl rfl (by decide) (by decide) rfl (by decide) (fun H locs hP hD hS => ?_)
  clear hc
  refine lv_istore_n (lv' := [(2, .int r1), (0, .ref (a 0)), (1, .int p0)]) hx hb dX6_clash_8 rfl hl (by decide) rfl (fun ls hl => ?_)
  refine lv_iload_n hx hb dX6_clash_9 rfl (lv_at hl 0 rfl) ?_
  refine lv_iconst (v := -1) hx hb dX6_clash_10 (by decide) ?_
  refine lv_icmp_ne (tgt := 20) hx hb dX6_clash_11 (by decide) (fun hq => ?_) (fun hq => ?_)
  · replace hf := jx_pos hq hf
    refine lv_iload_n hx hb dX6_clash_20 rfl (lv_at hl 0 rfl) ?_
    have he := jx_eq hf
    subst he
    exact jx_reti hx hb hr hlocks rfl hK hP hD hS dX6_clash_21
  · replace hf := jx_negn hq hf
    refine lv_sipush (v := -1001) hx hb dX6_clash_14 (by decide) ?_
    refine lv_goto (tgt := 21) hx hb dX6_clash_17 (by decide) ?_
    have he := jx_eq hf
    subst he
    exact jx_reti hx hb hr hlocks rfl hK hP hD hS dX6_clash_21
theorem iw_X6_count_X0 : ∀ w ∈ wsX00, w ∈ wsX6_count := by decide +kernel
theorem iw_X6_count_X2 : ∀ w ∈ wsX20, w ∈ wsX6_count := by decide +kernel
theorem iw_X6_count_X3 : ∀ w ∈ wsX30, w ∈ wsX6_count := by decide +kernel
theorem iw_X6_count_X6 : ∀ w ∈ wsX60, w ∈ wsX6_count := by decide +kernel
set_option maxHeartbeats 4000000 in
set_option maxRecDepth 100000 in
theorem c_X6_count (l : Launch) (D : va_G) (a : Nat → Nat) (cI cL : ClassId) (pl : Int32) (cd : (Nat → Int32)) (bs : Int32) (br : (Nat → Int64)) (un : (Nat → Int32)) (ow : (Nat → Int64)) (ki : (Nat → Int32)) (th : (Nat → Int64)) (cm : (Nat → Int64)) (tr : Int32) (tl : Int32) (ch : Int32) (jl : (Nat → Int32)) (bz : (Nat → Int64)) (rw : (Nat → Int64)) (kf : Int32) (p0 : Int32) (res : Int32) (hf : pf_X6_count pl bs ki cm tr tl p0 = some res) : jMi l yX6_count wsX6_count ({ frames := 4, cells := 0, slots := 0, locals := 86 }) D [(cI, .int), (cL, .long)] [.ref (a 0), .int p0] (wX a cI cL pl cd bs br un ow ki th cm tr tl ch jl bz rw kf) res (wX a cI cL pl cd bs br un ow ki th cm tr tl ch jl bz rw kf) := by
  intro sz
  refine Met.ofW (cc := cX6_count) (maxL := 2) (ret := (some .int)) (by decide) rfl ?_
  intro p e s m args below meth c s₁ B hml hv
  obtain ⟨rfl, hsz, hP, hK, hD0, hN⟩ := hv
  have hx := B.exec
  have hb := B.bytes
  have hr := B.returns
  have hts := atoms_spec (ws := wsX6_count) B.pre
  have hown : s.vm.findClass RX6 = some m.cls := findClass_of_methodNamed B.named
  have hlocks := B.notSynchronized
  subst hsz
  have hD := hD0.self (sz := s.heap.size)
  generalize hAe : va_A (wX a cI cL pl cd bs br un ow ki th cm tr tl ch jl bz rw kf) s.heap.size = A at hD ⊢
  have hA : ∀ q : Nat, s.heap.size ≤ q → A q := fun q h => by rw [← hAe]; exact Or.inr h
  have hS : va_S A s.heap s.heap [] := va_S.rf
  have hl := lv_entry ([.ref (a 0), .int p0]) (n := 2) (Nat.le_of_ble_eq_true rfl)
  rw [lg_entry_eq]
  generalize (lg_sl ([.ref (a 0), .int p0]) ++ List.replicate (2 - (lg_sl ([.ref (a 0), .int p0])).length) Slot.unset).toArray = ls at hl ⊢
  have hl : lv_has ls 2 [(0, .ref (a 0)), (1, .int p0)] := hl
  have hf : pf_X6_count pl bs ki cm tr tl p0 = some res := hf
  refine lv_iload_n hx hb dX6_count_0 rfl (lv_at hl 1 rfl) ?_
  by_cases hq0 : p0 = (0 : Int32)
  · replace hf := jx_pos hq0 hf
    refine lv_tableIn (off := 47) (tgt := 48) hx hb dX6_count_1 (by rw [hq0]; decide) (by rw [hq0]; decide) (by rw [hq0]; decide) (by decide) ?_
    refine lv_aload_n hx hb dX6_count_48 rfl (lv_at hl 0 rfl) ?_
    refine va_get (D := D) (ci := 5) (v := .ref (a 1)) (C := RX6) (T := TX6) (N := 5) hx hb hts iw_X6_count_X6 hown hK hP 0 rfl rfl 0 (by decide) (hts (.fieldLink RX6 12 "PassedDuties" "page" "LPassedDuties$Page;") (by decide +kernel)) (fun _ h9 => h9) rfl dX6_count_49 ?_
    refine va_getN (D := D) (ci := 2) (v := .int pl) (C := RX2) (T := TX2) (N := 2) hx hb hts iw_X6_count_X2 hown hK hP 1 rfl rfl 1 (by decide) (va_Nw.use rfl (hN (.fieldLinkNest "PassedDuties" 46 "PassedDuties$Page" "length" "I" "PassedDuties") (by decide +kernel))) (fun _ h9 => h9) rfl dX6_count_52 ?_
    have he := jx_eq hf
    subst he
    exact jx_reti hx hb hr hlocks rfl hK hP hD hS dX6_count_55
  replace hf := jx_neg hq0 hf
  by_cases hq1 : p0 = (1 : Int32)
  · replace hf := jx_pos hq1 hf
    refine lv_tableIn (off := 55) (tgt := 56) hx hb dX6_count_1 (by rw [hq1]; decide) (by rw [hq1]; decide) (by rw [hq1]; decide) (by decide) ?_
    refine lv_aload_n hx hb dX6_count_56 rfl (lv_at hl 0 rfl) ?_
    refine va_get (D := D) (ci := 5) (v := .ref (a 3)) (C := RX6) (T := TX6) (N := 5) hx hb hts iw_X6_count_X6 hown hK hP 0 rfl rfl 1 (by decide) (hts (.fieldLink RX6 19 "PassedDuties" "book" "LPassedDuties$Book;") (by decide +kernel)) (fun _ h9 => h9) rfl dX6_count_57 ?_
    refine va_getN (D := D) (ci := 0) (v := .int bs) (C := RX0) (T := TX0) (N := 2) hx hb hts iw_X6_count_X0 hown hK hP 3 rfl rfl 1 (by decide) (va_Nw.use rfl (hN (.fieldLinkNest "PassedDuties" 153 "PassedDuties$Book" "size" "I" "PassedDuties") (by decide +kernel))) (fun _ h9 => h9) rfl dX6_count_60 ?_
    have he := jx_eq hf
    subst he
    exact jx_reti hx hb hr hlocks rfl hK hP hD hS dX6_count_63
  replace hf := jx_neg hq1 hf
  by_cases hq2 : p0 = (2 : Int32)
  · replace hf := jx_pos hq2 hf
    refine lv_tableIn (off := 63) (tgt := 64) hx hb dX6_count_1 (by rw [hq2]; decide) (by rw [hq2]; decide) (by rw [hq2]; decide) (by decide) ?_
    refine lv_aload_n hx hb dX6_count_64 rfl (lv_at hl 0 rfl) ?_
    refine va_get (D := D) (ci := 5) (v := .ref (a 5)) (C := RX6) (T := TX6) (N := 5) hx hb hts iw_X6_count_X6 hown hK hP 0 rfl rfl 2 (by decide) (hts (.fieldLink RX6 26 "PassedDuties" "parts" "LPassedDuties$Parts;") (by decide +kernel)) (fun _ h9 => h9) rfl dX6_count_65 ?_
    refine va_getN (D := D) (ci := 3) (v := .int tr) (C := RX3) (T := TX3) (N := 8) hx hb hts iw_X6_count_X3 hown hK hP 5 rfl rfl 5 (by decide) (va_Nw.use rfl (hN (.fieldLinkNest "PassedDuties" 156 "PassedDuties$Parts" "there" "I" "PassedDuties") (by decide +kernel))) (fun _ h9 => h9) rfl dX6_count_68 ?_
    obtain ⟨r1, hc, hf⟩ := jx_bs hf
    refine jx_ki (wr := [((a 0), .inr (5, [.ref (a 1), .ref (a 3), .ref (a 5), .ref (a 11), .ref (a 13)])), ((a 1), .inr (2, [.ref (a 2), .int pl])), ((a 2), .inl (cI, 24, .inl cd)), ((a 3), .inr (0, [.ref (a 4), .int bs])), ((a 4), .inl (cL, 8, .inr (.inl br))), ((a 5), .inr (3, [.ref (a 6), .ref (a 7), .ref (a 8), .ref (a 9), .ref (a 10), .int tr, .int tl, .int ch])), ((a 6), .inl (cI, 8, .inl un)), ((a 7), .inl (cL, 8, .inr (.inl ow))), ((a 8), .inl (cI, 64, .inl ki)), ((a 9), .inl (cL, 64, .inr (.inl th))), ((a 10), .inl (cL, 8, .inr (.inl cm))), ((a 11), .inr (4, [.ref (a 5), .ref (a 12)])), ((a 12), .inl (cI, 8, .inl jl)), ((a 13), .inr (1, [.ref (a 5), .ref (a 14), .ref (a 15), .int kf])), ((a 14), .inl (cL, 256, .inr (.inl bz))), ((a 15), .inl (cL, 8, .inr (.inl rw)))]) (ws2 := (wX a cI cL pl cd bs br un ow ki th cm tr tl ch jl bz rw kf)) (jx_runS (As := [.int tr]) (rest := []) ⟨hx, hb, hml, hown, hts⟩ (c_J6_bitCount_0f7a4 l D a cI cL tr r1 hc _) (va_cwS 1 hts gX6_count_J6_bitCount_0f7a4 rfl rfl rfl (by decide +kernel) ⟨Nat.le_of_ble_eq_true rfl, Nat.le_of_ble_eq_true rfl⟩) hK hN hP hD [] rfl (by decide) rfl hl.1 rfl (Nat.le_of_ble_eq_true rfl) dX6_count_71 ⟨Nat.le_of_ble_eq_true rfl, Nat.le_of_ble_eq_true rfl⟩) hP hD hS hA [] [0, 1, 2, 3, 4, 5, 6, 7, 8, 9, 10, 11, 12, 13, 14, 15] [0, 1, 2, 3, 4, 5, 6, 7, 8, 9, 10, 11, 12, 13, 14, 15] rfl rfl (by decide) (by decide) rfl (by decide) (fun H locs hP hD hS => ?_)
    clear hc
    have he := jx_eq hf
    subst he
    exact jx_reti hx hb hr hlocks rfl hK hP hD hS dX6_count_74
  replace hf := jx_neg hq2 hf
  by_cases hq3 : p0 = (3 : Int32)
  · replace hf := jx_pos hq3 hf
    refine lv_tableIn (off := 74) (tgt := 75) hx hb dX6_count_1 (by rw [hq3]; decide) (by rw [hq3]; decide) (by rw [hq3]; decide) (by decide) ?_
    refine lv_aload_n hx hb dX6_count_75 rfl (lv_at hl 0 rfl) ?_
    refine va_get (D := D) (ci := 5) (v := .ref (a 5)) (C := RX6) (T := TX6) (N := 5) hx hb hts iw_X6_count_X6 hown hK hP 0 rfl rfl 2 (by decide) (hts (.fieldLink RX6 26 "PassedDuties" "parts" "LPassedDuties$Parts;") (by decide +kernel)) (fun _ h9 => h9) rfl dX6_count_76 ?_
    refine va_getN (D := D) (ci := 3) (v := .int tr) (C := RX3) (T := TX3) (N := 8) hx hb hts iw_X6_count_X3 hown hK hP 5 rfl rfl 5 (by decide) (va_Nw.use rfl (hN (.fieldLinkNest "PassedDuties" 156 "PassedDuties$Parts" "there" "I" "PassedDuties") (by decide +kernel))) (fun _ h9 => h9) rfl dX6_count_79 ?_
    have he := jx_eq hf
    subst he
    exact jx_reti hx hb hr hlocks rfl hK hP hD hS dX6_count_82
  replace hf := jx_neg hq3 hf
  by_cases hq4 : p0 = (4 : Int32)
  · replace hf := jx_pos hq4 hf
    refine lv_tableIn (off := 82) (tgt := 83) hx hb dX6_count_1 (by rw [hq4]; decide) (by rw [hq4]; decide) (by rw [hq4]; decide) (by decide) ?_
    refine lv_aload_n hx hb dX6_count_83 rfl (lv_at hl 0 rfl) ?_
    refine va_get (D := D) (ci := 5) (v := .ref (a 5)) (C := RX6) (T := TX6) (N := 5) hx hb hts iw_X6_count_X6 hown hK hP 0 rfl rfl 2 (by decide) (hts (.fieldLink RX6 26 "PassedDuties" "parts" "LPassedDuties$Parts;") (by decide +kernel)) (fun _ h9 => h9) rfl dX6_count_84 ?_
    obtain ⟨r2, hc, hf⟩ := jx_bs hf
    refine jx_ki (wr := [((a 0), .inr (5, [.ref (a 1), .ref (a 3), .ref (a 5), .ref (a 11), .ref (a 13)])), ((a 1), .inr (2, [.ref (a 2), .int pl])), ((a 2), .inl (cI, 24, .inl cd)), ((a 3), .inr (0, [.ref (a 4), .int bs])), ((a 4), .inl (cL, 8, .inr (.inl br))), ((a 11), .inr (4, [.ref (a 5), .ref (a 12)])), ((a 12), .inl (cI, 8, .inl jl)), ((a 13), .inr (1, [.ref (a 5), .ref (a 14), .ref (a 15), .int kf])), ((a 14), .inl (cL, 256, .inr (.inl bz))), ((a 15), .inl (cL, 8, .inr (.inl rw)))]) (ws2 := (wX a cI cL pl cd bs br un ow ki th cm tr tl ch jl bz rw kf)) (jx_runV (As := []) (rest := []) ⟨hx, hb, hml, hown, hts⟩ (c_X3_joins l D a cI cL un ow ki th cm tr tl ch r2 hc _) (cwV 0 hts gX6_count_X3_joins rfl rfl rfl (by decide +kernel) ⟨Nat.le_of_ble_eq_true rfl, Nat.le_of_ble_eq_true rfl⟩) hK hN hP hD [5, 6, 7, 8, 9, 10] rfl (by decide) 5 3 rfl rfl rfl hl.1 rfl (Nat.le_of_ble_eq_true rfl) dX6_count_87 ⟨Nat.le_of_ble_eq_true rfl, Nat.le_of_ble_eq_true rfl⟩) hP hD hS hA [5, 6, 7, 8, 9, 10] [0, 1, 2, 3, 4, 11, 12, 13, 14, 15] [0, 1, 2, 3, 4, 10, 11, 12, 13, 14, 15, 5, 6, 7, 8, 9] rfl rfl (by decide) (by decide) rfl (by decide) (fun H locs hP hD hS => ?_)
    clear hc
    have he := jx_eq hf
    subst he
    exact jx_reti hx hb hr hlocks rfl hK hP hD hS dX6_count_90
  replace hf := jx_neg hq4 hf
  by_cases hq5 : p0 = (5 : Int32)
  · replace hf := jx_pos hq5 hf
    refine lv_tableIn (off := 90) (tgt := 91) hx hb dX6_count_1 (by rw [hq5]; decide) (by rw [hq5]; decide) (by rw [hq5]; decide) (by decide) ?_
    refine lv_aload_n hx hb dX6_count_91 rfl (lv_at hl 0 rfl) ?_
    refine va_get (D := D) (ci := 5) (v := .ref (a 13)) (C := RX6) (T := TX6) (N := 5) hx hb hts iw_X6_count_X6 hown hK hP 0 rfl rfl 4 (by decide) (hts (.fieldLink RX6 42 "PassedDuties" "clashes" "LPassedDuties$Clashes;") (by decide +kernel)) (fun _ h9 => h9) rfl dX6_count_92 ?_
    obtain ⟨r3, hc, hf⟩ := jx_bs hf
    refine jx_kl (wr := [((a 0), .inr (5, [.ref (a 1), .ref (a 3), .ref (a 5), .ref (a 11), .ref (a 13)])), ((a 1), .inr (2, [.ref (a 2), .int pl])), ((a 2), .inl (cI, 24, .inl cd)), ((a 3), .inr (0, [.ref (a 4), .int bs])), ((a 4), .inl (cL, 8, .inr (.inl br))), ((a 11), .inr (4, [.ref (a 5), .ref (a 12)])), ((a 12), .inl (cI, 8, .inl jl))]) (ws2 := (wX a cI cL pl cd bs br un ow ki th cm tr tl ch jl bz rw kf)) (jx_runV (As := []) (rest := []) ⟨hx, hb, hml, hown, hts⟩ (c_X1_now l D a cI cL un ow ki th cm tr tl ch bz rw kf r3 hc _) (cwV 0 hts gX6_count_X1_now rfl rfl rfl (by decide +kernel) ⟨Nat.le_of_ble_eq_true rfl, Nat.le_of_ble_eq_true rfl⟩) hK hN hP hD [13, 14, 15, 5, 6, 7, 8, 9, 10] rfl (by decide) 13 1 rfl rfl rfl hl.1 rfl (Nat.le_of_ble_eq_true rfl) dX6_count_95 ⟨Nat.le_of_ble_eq_true rfl, Nat.le_of_ble_eq_true rfl⟩) hP hD hS hA [13, 14, 15, 5, 6, 7, 8, 9, 10] [0, 1, 2, 3, 4, 11, 12] [0, 1, 2, 3, 4, 10, 11, 12, 13, 14, 15, 5, 6, 7, 8, 9] rfl rfl (by decide) (by decide) rfl (by decide) (fun H locs hP hD hS => ?_)
    clear hc
    obtain ⟨r4, hc, hf⟩ := jx_bs hf
    refine jx_ki (wr := [((a 0), .inr (5, [.ref (a 1), .ref (a 3), .ref (a 5), .ref (a 11), .ref (a 13)])), ((a 1), .inr (2, [.ref (a 2), .int pl])), ((a 2), .inl (cI, 24, .inl cd)), ((a 3), .inr (0, [.ref (a 4), .int bs])), ((a 4), .inl (cL, 8, .inr (.inl br))), ((a 5), .inr (3, [.ref (a 6), .ref (a 7), .ref (a 8), .ref (a 9), .ref (a 10), .int tr, .int tl, .int ch])), ((a 6), .inl (cI, 8, .inl un)), ((a 7), .inl (cL, 8, .inr (.inl ow))), ((a 8), .inl (cI, 64, .inl ki)), ((a 9), .inl (cL, 64, .inr (.inl th))), ((a 10), .inl (cL, 8, .inr (.inl cm))), ((a 11), .inr (4, [.ref (a 5), .ref (a 12)])), ((a 12), .inl (cI, 8, .inl jl)), ((a 13), .inr (1, [.ref (a 5), .ref (a 14), .ref (a 15), .int kf])), ((a 14), .inl (cL, 256, .inr (.inl bz))), ((a 15), .inl (cL, 8, .inr (.inl rw)))]) (ws2 := (wX a cI cL pl cd bs br un ow ki th cm tr tl ch jl bz rw kf)) (jx_runS (As := [.long r3]) (rest := []) ⟨hx, hb, hml, hown, hts⟩ (c_J13_bitCount_95d88 l D a cI cL r3 r4 hc _) (va_cwS 1 hts gX6_count_J13_bitCount_95d88 rfl rfl rfl (by decide +kernel) ⟨Nat.le_of_ble_eq_true rfl, Nat.le_of_ble_eq_true rfl⟩) hK hN hP hD [] rfl (by decide) rfl hl.1 rfl (Nat.le_of_ble_eq_true rfl) dX6_count_98 ⟨Nat.le_of_ble_eq_true rfl, Nat.le_of_ble_eq_true rfl⟩) hP hD hS hA [] [0, 1, 2, 3, 4, 5, 6, 7, 8, 9, 10, 11, 12, 13, 14, 15] [0, 1, 2, 3, 4, 5, 6, 7, 8, 9, 10, 11, 12, 13, 14, 15] rfl rfl (by decide) (by decide) rfl (by decide) (fun H locs hP hD hS => ?_)
    clear hc
    have he := jx_eq hf
    subst he
    exact jx_reti hx hb hr hlocks rfl hK hP hD hS dX6_count_101
  replace hf := jx_neg hq5 hf
  by_cases hq6 : p0 = (6 : Int32)
  · replace hf := jx_pos hq6 hf
    refine lv_tableIn (off := 101) (tgt := 102) hx hb dX6_count_1 (by rw [hq6]; decide) (by rw [hq6]; decide) (by rw [hq6]; decide) (by decide) ?_
    refine lv_aload_n hx hb dX6_count_102 rfl (lv_at hl 0 rfl) ?_
    refine va_get (D := D) (ci := 5) (v := .ref (a 13)) (C := RX6) (T := TX6) (N := 5) hx hb hts iw_X6_count_X6 hown hK hP 0 rfl rfl 4 (by decide) (hts (.fieldLink RX6 42 "PassedDuties" "clashes" "LPassedDuties$Clashes;") (by decide +kernel)) (fun _ h9 => h9) rfl dX6_count_103 ?_
    obtain ⟨r5, hc, hf⟩ := jx_bs hf
    refine jx_ki (wr := [((a 0), .inr (5, [.ref (a 1), .ref (a 3), .ref (a 5), .ref (a 11), .ref (a 13)])), ((a 1), .inr (2, [.ref (a 2), .int pl])), ((a 2), .inl (cI, 24, .inl cd)), ((a 3), .inr (0, [.ref (a 4), .int bs])), ((a 4), .inl (cL, 8, .inr (.inl br))), ((a 11), .inr (4, [.ref (a 5), .ref (a 12)])), ((a 12), .inl (cI, 8, .inl jl))]) (ws2 := (wX a cI cL pl cd bs br un ow ki th cm tr tl ch jl bz rw kf)) (jx_runV (As := []) (rest := []) ⟨hx, hb, hml, hown, hts⟩ (c_X1_partsNow l D a cI cL un ow ki th cm tr tl ch bz rw kf r5 hc _) (cwV 0 hts gX6_count_X1_partsNow rfl rfl rfl (by decide +kernel) ⟨Nat.le_of_ble_eq_true rfl, Nat.le_of_ble_eq_true rfl⟩) hK hN hP hD [13, 14, 15, 5, 6, 7, 8, 9, 10] rfl (by decide) 13 1 rfl rfl rfl hl.1 rfl (Nat.le_of_ble_eq_true rfl) dX6_count_106 ⟨Nat.le_of_ble_eq_true rfl, Nat.le_of_ble_eq_true rfl⟩) hP hD hS hA [13, 14, 15, 5, 6, 7, 8, 9, 10] [0, 1, 2, 3, 4, 11, 12] [0, 1, 2, 3, 4, 10, 11, 12, 13, 14, 15, 5, 6, 7, 8, 9] rfl rfl (by decide) (by decide) rfl (by decide) (fun H locs hP hD hS => ?_)
    clear hc
    have he := jx_eq hf
    subst he
    exact jx_reti hx hb hr hlocks rfl hK hP hD hS dX6_count_109
  replace hf := jx_neg hq6 hf
  by_cases hq7 : p0 = (7 : Int32)
  · replace hf := jx_pos hq7 hf
    refine lv_tableIn (off := 109) (tgt := 110) hx hb dX6_count_1 (by rw [hq7]; decide) (by rw [hq7]; decide) (by rw [hq7]; decide) (by decide) ?_
    refine lv_aload_n hx hb dX6_count_110 rfl (lv_at hl 0 rfl) ?_
    refine va_get (D := D) (ci := 5) (v := .ref (a 5)) (C := RX6) (T := TX6) (N := 5) hx hb hts iw_X6_count_X6 hown hK hP 0 rfl rfl 2 (by decide) (hts (.fieldLink RX6 26 "PassedDuties" "parts" "LPassedDuties$Parts;") (by decide +kernel)) (fun _ h9 => h9) rfl dX6_count_111 ?_
    refine va_getN (D := D) (ci := 3) (v := .int tl) (C := RX3) (T := TX3) (N := 8) hx hb hts iw_X6_count_X3 hown hK hP 5 rfl rfl 6 (by decide) (va_Nw.use rfl (hN (.fieldLinkNest "PassedDuties" 177 "PassedDuties$Parts" "timesLeft" "I" "PassedDuties") (by decide +kernel))) (fun _ h9 => h9) rfl dX6_count_114 ?_
    have he := jx_eq hf
    subst he
    exact jx_reti hx hb hr hlocks rfl hK hP hD hS dX6_count_117
  replace hf := jx_neg hq7 hf
  refine lv_tableOut (tgt := 118) hx hb dX6_count_1 (jx_sw7 p0 hq0 hq1 hq2 hq3 hq4 hq5 hq6 hq7) (by decide) ?_
  refine lv_sipush (v := -1002) hx hb dX6_count_118 (by decide) ?_
  have he := jx_eq hf
  subst he
  exact jx_reti hx hb hr hlocks rfl hK hP hD hS dX6_count_121
theorem iw_X6_cure_X6 : ∀ w ∈ wsX60, w ∈ wsX6_cure := by decide +kernel
set_option maxHeartbeats 4000000 in
set_option maxRecDepth 100000 in
theorem c_X6_cure (l : Launch) (D : va_G) (a : Nat → Nat) (cI cL : ClassId) (pl : Int32) (cd : (Nat → Int32)) (bs : Int32) (br : (Nat → Int64)) (un : (Nat → Int32)) (ow : (Nat → Int64)) (ki : (Nat → Int32)) (th : (Nat → Int64)) (cm : (Nat → Int64)) (tr : Int32) (tl : Int32) (ch : Int32) (jl : (Nat → Int32)) (bz : (Nat → Int64)) (rw : (Nat → Int64)) (kf : Int32) (res : (Int32 × (Nat → Int64) × (Nat → Int64) × Int32)) (hf : pf_X6_cure ow th cm tr ch bz rw kf = some res) : jMi l yX6_cure wsX6_cure ({ frames := 5, cells := 0, slots := 0, locals := 109 }) D [(cI, .int), (cL, .long)] [.ref (a 0)] (wX a cI cL pl cd bs br un ow ki th cm tr tl ch jl bz rw kf) res.1 (wX a cI cL pl cd bs br un ow ki th cm tr tl ch jl res.2.1 res.2.2.1 res.2.2.2) := by
  intro sz
  refine Met.ofW (cc := cX6_cure) (maxL := 1) (ret := (some .int)) (by decide) rfl ?_
  intro p e s m args below meth c s₁ B hml hv
  obtain ⟨rfl, hsz, hP, hK, hD0, hN⟩ := hv
  have hx := B.exec
  have hb := B.bytes
  have hr := B.returns
  have hts := atoms_spec (ws := wsX6_cure) B.pre
  have hown : s.vm.findClass RX6 = some m.cls := findClass_of_methodNamed B.named
  have hlocks := B.notSynchronized
  subst hsz
  have hD := hD0.self (sz := s.heap.size)
  generalize hAe : va_A (wX a cI cL pl cd bs br un ow ki th cm tr tl ch jl bz rw kf) s.heap.size = A at hD ⊢
  have hA : ∀ q : Nat, s.heap.size ≤ q → A q := fun q h => by rw [← hAe]; exact Or.inr h
  have hS : va_S A s.heap s.heap [] := va_S.rf
  have hl := lv_entry ([.ref (a 0)]) (n := 1) (Nat.le_of_ble_eq_true rfl)
  rw [lg_entry_eq]
  generalize (lg_sl ([.ref (a 0)]) ++ List.replicate (1 - (lg_sl ([.ref (a 0)])).length) Slot.unset).toArray = ls at hl ⊢
  have hl : lv_has ls 1 [(0, .ref (a 0))] := hl
  have hf : pf_X6_cure ow th cm tr ch bz rw kf = some res := hf
  refine lv_aload_n hx hb dX6_cure_0 rfl (lv_at hl 0 rfl) ?_
  refine va_get (D := D) (ci := 5) (v := .ref (a 13)) (C := RX6) (T := TX6) (N := 5) hx hb hts iw_X6_cure_X6 hown hK hP 0 rfl rfl 4 (by decide) (hts (.fieldLink RX6 42 "PassedDuties" "clashes" "LPassedDuties$Clashes;") (by decide +kernel)) (fun _ h9 => h9) rfl dX6_cure_1 ?_
  obtain ⟨r1, hc, hf⟩ := jx_bs hf
  refine jx_ki (wr := [((a 0), .inr (5, [.ref (a 1), .ref (a 3), .ref (a 5), .ref (a 11), .ref (a 13)])), ((a 1), .inr (2, [.ref (a 2), .int pl])), ((a 2), .inl (cI, 24, .inl cd)), ((a 3), .inr (0, [.ref (a 4), .int bs])), ((a 4), .inl (cL, 8, .inr (.inl br))), ((a 11), .inr (4, [.ref (a 5), .ref (a 12)])), ((a 12), .inl (cI, 8, .inl jl))]) (ws2 := (wX a cI cL pl cd bs br un ow ki th cm tr tl ch jl r1.2.1 r1.2.2.1 r1.2.2.2)) (jx_runV (As := []) (rest := []) ⟨hx, hb, hml, hown, hts⟩ (c_X1_fewestToLeave l D a cI cL un ow ki th cm tr tl ch bz rw kf r1 hc _) (cwV 0 hts gX6_cure_X1_fewestToLeave rfl rfl rfl (by decide +kernel) ⟨Nat.le_of_ble_eq_true rfl, Nat.le_of_ble_eq_true rfl⟩) hK hN hP hD [13, 14, 15, 5, 6, 7, 8, 9, 10] rfl (by decide) 13 1 rfl rfl rfl hl.1 rfl (Nat.le_of_ble_eq_true rfl) dX6_cure_4 ⟨Nat.le_of_ble_eq_true rfl, Nat.le_of_ble_eq_true rfl⟩) hP hD hS hA [13, 14, 15, 5, 6, 7, 8, 9, 10] [0, 1, 2, 3, 4, 11, 12] [0, 1, 2, 3, 4, 10, 11, 12, 13, 14, 15, 5, 6, 7, 8, 9] rfl rfl (by decide) (by decide) rfl (by decide) (fun H locs hP hD hS => ?_)
  clear hc
  have he := jx_eq hf
  subst he
  exact jx_reti hx hb hr hlocks rfl hK hP hD hS dX6_cure_7
theorem iw_X6_reach_X0 : ∀ w ∈ wsX00, w ∈ wsX6_reach := by decide +kernel
theorem iw_X6_reach_X6 : ∀ w ∈ wsX60, w ∈ wsX6_reach := by decide +kernel
set_option maxHeartbeats 4000000 in
set_option maxRecDepth 100000 in
theorem c_X6_reach (l : Launch) (D : va_G) (a : Nat → Nat) (cI cL : ClassId) (pl : Int32) (cd : (Nat → Int32)) (bs : Int32) (br : (Nat → Int64)) (un : (Nat → Int32)) (ow : (Nat → Int64)) (ki : (Nat → Int32)) (th : (Nat → Int64)) (cm : (Nat → Int64)) (tr : Int32) (tl : Int32) (ch : Int32) (jl : (Nat → Int32)) (bz : (Nat → Int64)) (rw : (Nat → Int64)) (kf : Int32) (p0 : Int32) (p1 : Int32) (res : Int32) (hf : pf_X6_reach bs br p0 p1 = some res) : jMi l yX6_reach wsX6_reach ({ frames := 2, cells := 0, slots := 0, locals := 45 }) D [(cI, .int), (cL, .long)] [.ref (a 0), .int p0, .int p1] (wX a cI cL pl cd bs br un ow ki th cm tr tl ch jl bz rw kf) res (wX a cI cL pl cd bs br un ow ki th cm tr tl ch jl bz rw kf) := by
  intro sz
  refine Met.ofW (cc := cX6_reach) (maxL := 3) (ret := (some .int)) (by decide) rfl ?_
  intro p e s m args below meth c s₁ B hml hv
  obtain ⟨rfl, hsz, hP, hK, hD0, hN⟩ := hv
  have hx := B.exec
  have hb := B.bytes
  have hr := B.returns
  have hts := atoms_spec (ws := wsX6_reach) B.pre
  have hown : s.vm.findClass RX6 = some m.cls := findClass_of_methodNamed B.named
  have hlocks := B.notSynchronized
  subst hsz
  have hD := hD0.self (sz := s.heap.size)
  generalize hAe : va_A (wX a cI cL pl cd bs br un ow ki th cm tr tl ch jl bz rw kf) s.heap.size = A at hD ⊢
  have hA : ∀ q : Nat, s.heap.size ≤ q → A q := fun q h => by rw [← hAe]; exact Or.inr h
  have hS : va_S A s.heap s.heap [] := va_S.rf
  have hl := lv_entry ([.ref (a 0), .int p0, .int p1]) (n := 3) (Nat.le_of_ble_eq_true rfl)
  rw [lg_entry_eq]
  generalize (lg_sl ([.ref (a 0), .int p0, .int p1]) ++ List.replicate (3 - (lg_sl ([.ref (a 0), .int p0, .int p1])).length) Slot.unset).toArray = ls at hl ⊢
  have hl : lv_has ls 3 [(0, .ref (a 0)), (1, .int p0), (2, .int p1)] := hl
  have hf : pf_X6_reach bs br p0 p1 = some res := hf
  refine lv_aload_n hx hb dX6_reach_0 rfl (lv_at hl 0 rfl) ?_
  refine va_get (D := D) (ci := 5) (v := .ref (a 3)) (C := RX6) (T := TX6) (N := 5) hx hb hts iw_X6_reach_X6 hown hK hP 0 rfl rfl 1 (by decide) (hts (.fieldLink RX6 19 "PassedDuties" "book" "LPassedDuties$Book;") (by decide +kernel)) (fun _ h9 => h9) rfl dX6_reach_1 ?_
  refine lv_iload_n hx hb dX6_reach_4 rfl (lv_at hl 1 rfl) ?_
  obtain ⟨r1, hc, hf⟩ := jx_bs hf
  refine jx_ki (wr := [((a 0), .inr (5, [.ref (a 1), .ref (a 3), .ref (a 5), .ref (a 11), .ref (a 13)])), ((a 1), .inr (2, [.ref (a 2), .int pl])), ((a 2), .inl (cI, 24, .inl cd)), ((a 5), .inr (3, [.ref (a 6), .ref (a 7), .ref (a 8), .ref (a 9), .ref (a 10), .int tr, .int tl, .int ch])), ((a 6), .inl (cI, 8, .inl un)), ((a 7), .inl (cL, 8, .inr (.inl ow))), ((a 8), .inl (cI, 64, .inl ki)), ((a 9), .inl (cL, 64, .inr (.inl th))), ((a 10), .inl (cL, 8, .inr (.inl cm))), ((a 11), .inr (4, [.ref (a 5), .ref (a 12)])), ((a 12), .inl (cI, 8, .inl jl)), ((a 13), .inr (1, [.ref (a 5), .ref (a 14), .ref (a 15), .int kf])), ((a 14), .inl (cL, 256, .inr (.inl bz))), ((a 15), .inl (cL, 8, .inr (.inl rw)))]) (ws2 := (wX a cI cL pl cd bs br un ow ki th cm tr tl ch jl bz rw kf)) (jx_runV (As := [.int p0]) (rest := []) ⟨hx, hb, hml, hown, hts⟩ (c_X0_has l D a cI cL bs br p0 r1 hc _) (cwV 1 hts gX6_reach_X0_has rfl rfl rfl (by decide +kernel) ⟨Nat.le_of_ble_eq_true rfl, Nat.le_of_ble_eq_true rfl⟩) hK hN hP hD [3, 4] rfl (by decide) 3 0 rfl rfl rfl hl.1 rfl (Nat.le_of_ble_eq_true rfl) dX6_reach_5 ⟨Nat.le_of_ble_eq_true rfl, Nat.le_of_ble_eq_true rfl⟩) hP hD hS hA [3, 4] [0, 1, 2, 5, 6, 7, 8, 9, 10, 11, 12, 13, 14, 15] [0, 1, 2, 14, 15, 3, 4, 5, 6, 7, 8, 9, 10, 11, 12, 13] rfl rfl (by decide) (by decide) rfl (by decide) (fun H locs hP hD hS => ?_)
  clear hc
  refine lv_if_ne (tgt := 15) hx hb dX6_reach_8 (by decide) (fun hq => ?_) (fun hq => ?_)
  · replace hf := jx_pos hq hf
    refine lv_iload_n hx hb dX6_reach_15 rfl (lv_at hl 2 rfl) ?_
    obtain ⟨r2, hc, hf⟩ := jx_bs hf
    refine jx_ki (wr := [((a 0), .inr (5, [.ref (a 1), .ref (a 3), .ref (a 5), .ref (a 11), .ref (a 13)])), ((a 1), .inr (2, [.ref (a 2), .int pl])), ((a 2), .inl (cI, 24, .inl cd)), ((a 3), .inr (0, [.ref (a 4), .int bs])), ((a 4), .inl (cL, 8, .inr (.inl br))), ((a 5), .inr (3, [.ref (a 6), .ref (a 7), .ref (a 8), .ref (a 9), .ref (a 10), .int tr, .int tl, .int ch])), ((a 6), .inl (cI, 8, .inl un)), ((a 7), .inl (cL, 8, .inr (.inl ow))), ((a 8), .inl (cI, 64, .inl ki)), ((a 9), .inl (cL, 64, .inr (.inl th))), ((a 10), .inl (cL, 8, .inr (.inl cm))), ((a 11), .inr (4, [.ref (a 5), .ref (a 12)])), ((a 12), .inl (cI, 8, .inl jl)), ((a 13), .inr (1, [.ref (a 5), .ref (a 14), .ref (a 15), .int kf])), ((a 14), .inl (cL, 256, .inr (.inl bz))), ((a 15), .inl (cL, 8, .inr (.inl rw)))]) (ws2 := (wX a cI cL pl cd bs br un ow ki th cm tr tl ch jl bz rw kf)) (jx_runS (As := [.int p1]) (rest := []) ⟨hx, hb, hml, hown, hts⟩ (c_X6_isItem l D a cI cL p1 r2 hc _) (va_cwS 1 hts gX6_reach_X6_isItem rfl rfl rfl (by decide +kernel) ⟨Nat.le_of_ble_eq_true rfl, Nat.le_of_ble_eq_true rfl⟩) hK hN hP hD [] rfl (by decide) rfl hl.1 rfl (Nat.le_of_ble_eq_true rfl) dX6_reach_16 ⟨Nat.le_of_ble_eq_true rfl, Nat.le_of_ble_eq_true rfl⟩) hP hD hS hA [] [0, 1, 2, 3, 4, 5, 6, 7, 8, 9, 10, 11, 12, 13, 14, 15] [0, 1, 2, 3, 4, 5, 6, 7, 8, 9, 10, 11, 12, 13, 14, 15] rfl rfl (by decide) (by decide) rfl (by decide) (fun H locs hP hD hS => ?_)
    clear hc
    refine lv_if_eq (tgt := 38) hx hb dX6_reach_19 (by decide) (fun hq => ?_) (fun hq => ?_)
    · replace hf := jx_pos hq hf
      refine lv_sipush (v := -1002) hx hb dX6_reach_38 (by decide) ?_
      have he := jx_eq hf
      subst he
      exact jx_reti hx hb hr hlocks rfl hK hP hD hS dX6_reach_41
    · replace hf := jx_neg hq hf
      refine lv_aload_n hx hb dX6_reach_22 rfl (lv_at hl 0 rfl) ?_
      refine va_get (D := D) (ci := 5) (v := .ref (a 3)) (C := RX6) (T := TX6) (N := 5) hx hb hts iw_X6_reach_X6 hown hK hP 0 rfl rfl 1 (by decide) (hts (.fieldLink RX6 19 "PassedDuties" "book" "LPassedDuties$Book;") (by decide +kernel)) (fun _ h9 => h9) rfl dX6_reach_23 ?_
      refine va_getN (D := D) (ci := 0) (v := .ref (a 4)) (C := RX0) (T := TX0) (N := 2) hx hb hts iw_X6_reach_X0 hown hK hP 3 rfl rfl 0 (by decide) (va_Nw.use rfl (hN (.fieldLinkNest "PassedDuties" 76 "PassedDuties$Book" "rows" "[J" "PassedDuties") (by decide +kernel))) (fun _ h9 => h9) rfl dX6_reach_26 ?_
      refine lv_iload_n hx hb dX6_reach_29 rfl (lv_at hl 1 rfl) ?_
      obtain ⟨hi, hf⟩ := jx_gs hf
      refine va_lald hx hb hK hP 4 1 rfl rfl (jx_ip hi) dX6_reach_30 ?_
      clear hi
      refine lv_iload_n hx hb dX6_reach_31 rfl (lv_at hl 2 rfl) ?_
      obtain ⟨r3, hc, hf⟩ := jx_bs hf
      refine jx_ki (wr := [((a 0), .inr (5, [.ref (a 1), .ref (a 3), .ref (a 5), .ref (a 11), .ref (a 13)])), ((a 1), .inr (2, [.ref (a 2), .int pl])), ((a 2), .inl (cI, 24, .inl cd)), ((a 3), .inr (0, [.ref (a 4), .int bs])), ((a 4), .inl (cL, 8, .inr (.inl br))), ((a 5), .inr (3, [.ref (a 6), .ref (a 7), .ref (a 8), .ref (a 9), .ref (a 10), .int tr, .int tl, .int ch])), ((a 6), .inl (cI, 8, .inl un)), ((a 7), .inl (cL, 8, .inr (.inl ow))), ((a 8), .inl (cI, 64, .inl ki)), ((a 9), .inl (cL, 64, .inr (.inl th))), ((a 10), .inl (cL, 8, .inr (.inl cm))), ((a 11), .inr (4, [.ref (a 5), .ref (a 12)])), ((a 12), .inl (cI, 8, .inl jl)), ((a 13), .inr (1, [.ref (a 5), .ref (a 14), .ref (a 15), .int kf])), ((a 14), .inl (cL, 256, .inr (.inl bz))), ((a 15), .inl (cL, 8, .inr (.inl rw)))]) (ws2 := (wX a cI cL pl cd bs br un ow ki th cm tr tl ch jl bz rw kf)) (jx_runS (As := [.long (br (p0).toNatClampNeg), .int p1]) (rest := []) ⟨hx, hb, hml, hown, hts⟩ (c_X4_greatest l D a cI cL (br (p0).toNatClampNeg) p1 r3 hc _) (va_cwS 2 hts gX6_reach_X4_greatest rfl rfl rfl (by decide +kernel) ⟨Nat.le_of_ble_eq_true rfl, Nat.le_of_ble_eq_true rfl⟩) hK hN hP hD [] rfl (by decide) rfl hl.1 rfl (Nat.le_of_ble_eq_true rfl) dX6_reach_32 ⟨Nat.le_of_ble_eq_true rfl, Nat.le_of_ble_eq_true rfl⟩) hP hD hS hA [] [0, 1, 2, 3, 4, 5, 6, 7, 8, 9, 10, 11, 12, 13, 14, 15] [0, 1, 2, 3, 4, 5, 6, 7, 8, 9, 10, 11, 12, 13, 14, 15] rfl rfl (by decide) (by decide) rfl (by decide) (fun H locs hP hD hS => ?_)
      clear hc
      refine lv_goto (tgt := 41) hx hb dX6_reach_35 (by decide) ?_
      have he := jx_eq hf
      subst he
      exact jx_reti hx hb hr hlocks rfl hK hP hD hS dX6_reach_41
  · replace hf := jx_negn hq hf
    refine lv_sipush (v := -1001) hx hb dX6_reach_11 (by decide) ?_
    have he := jx_eq hf
    subst he
    exact jx_reti hx hb hr hlocks rfl hK hP hD hS dX6_reach_14
theorem iw_X6_withTerms_X0 : ∀ w ∈ wsX00, w ∈ wsX6_withTerms := by decide +kernel
theorem iw_X6_withTerms_X6 : ∀ w ∈ wsX60, w ∈ wsX6_withTerms := by decide +kernel
set_option maxHeartbeats 4000000 in
set_option maxRecDepth 100000 in
theorem c_X6_withTerms (l : Launch) (D : va_G) (a : Nat → Nat) (cI cL : ClassId) (pl : Int32) (cd : (Nat → Int32)) (bs : Int32) (br : (Nat → Int64)) (un : (Nat → Int32)) (ow : (Nat → Int64)) (ki : (Nat → Int32)) (th : (Nat → Int64)) (cm : (Nat → Int64)) (tr : Int32) (tl : Int32) (ch : Int32) (jl : (Nat → Int32)) (bz : (Nat → Int64)) (rw : (Nat → Int64)) (kf : Int32) (p0 : Int64) (res : Int64) (hf : pf_X6_withTerms bs br p0 = some res) : jMl l yX6_withTerms wsX6_withTerms ({ frames := 3, cells := 0, slots := 0, locals := 67 }) D [(cI, .int), (cL, .long)] [.ref (a 0), .long p0] (wX a cI cL pl cd bs br un ow ki th cm tr tl ch jl bz rw kf) res (wX a cI cL pl cd bs br un ow ki th cm tr tl ch jl bz rw kf) := by
  intro sz
  refine Met.ofW (cc := cX6_withTerms) (maxL := 7) (ret := (some .long)) (by decide) rfl ?_
  intro p e s m args below meth c s₁ B hml hv
  obtain ⟨rfl, hsz, hP, hK, hD0, hN⟩ := hv
  have hx := B.exec
  have hb := B.bytes
  have hr := B.returns
  have hts := atoms_spec (ws := wsX6_withTerms) B.pre
  have hown : s.vm.findClass RX6 = some m.cls := findClass_of_methodNamed B.named
  have hlocks := B.notSynchronized
  subst hsz
  have hD := hD0.self (sz := s.heap.size)
  generalize hAe : va_A (wX a cI cL pl cd bs br un ow ki th cm tr tl ch jl bz rw kf) s.heap.size = A at hD ⊢
  have hA : ∀ q : Nat, s.heap.size ≤ q → A q := fun q h => by rw [← hAe]; exact Or.inr h
  have hS : va_S A s.heap s.heap [] := va_S.rf
  have hl := lv_entry ([.ref (a 0), .long p0]) (n := 7) (Nat.le_of_ble_eq_true rfl)
  rw [lg_entry_eq]
  generalize (lg_sl ([.ref (a 0), .long p0]) ++ List.replicate (7 - (lg_sl ([.ref (a 0), .long p0])).length) Slot.unset).toArray = ls at hl ⊢
  have hl : lv_has ls 7 [(0, .ref (a 0)), (1, .long p0)] := hl
  have hf : pf_X6_withTerms bs br p0 = some res := hf
  refine lv_lload_n hx hb dX6_withTerms_0 rfl (lv_at hl 1 rfl) ?_
  refine lv_lstore_n (lv' := [(3, .long p0), (0, .ref (a 0)), (1, .long p0)]) hx hb dX6_withTerms_1 rfl hl (by decide) rfl (fun ls hl => ?_)
  refine lv_iconst (v := 0) hx hb dX6_withTerms_2 (by decide) ?_
  refine lv_istore (lv' := [(5, .int (0 : Int32)), (3, .long p0), (0, .ref (a 0)), (1, .long p0)]) hx hb dX6_withTerms_3 hl (by decide) rfl (fun ls hl => ?_)
  obtain ⟨k2, hf, hkk2⟩ := jx_bs hf
  have hXk2 : ∀ (H : Heap) (locs : List Loc) (ls : Array Slot), va_P D vwCl (wX a cI cL pl cd bs br un ow ki th cm tr tl ch jl bz rw kf) H → va_D A (wX a cI cL pl cd bs br un ow ki th cm tr tl ch jl bz rw kf) → va_S A s.heap H locs → lv_has ls 7 [(3, .long k2)] → jx_Wl p l e wsX6_withTerms ({ frames := 3, cells := 0, slots := 0, locals := 67 }) s m [.ref (a 0), .long p0] below meth c D [(cI, .int), (cL, .long)] res (wX a cI cL pl cd bs br un ow ki th cm tr tl ch jl bz rw kf) A H locs (F0 m 53 ls []) := by
    clear hf hP hD hS hl
    intro H locs ls hP hD hS hl
    have hf := hkk2
    refine lv_lload_n hx hb dX6_withTerms_53 rfl (lv_at hl 0 rfl) ?_
    have he := jx_eq hf
    subst he
    exact jx_retl hx hb hr hlocks rfl hK hP hD hS dX6_withTerms_54
  have hLk2 : ∀ (n : Nat) (s1 : (Int64 × Int32)) (H : Heap) (locs : List Loc) (ls : Array Slot), jx_iter (pf_X6_withTerms_s1 bs br) n s1 = some k2 → va_P D vwCl (wX a cI cL pl cd bs br un ow ki th cm tr tl ch jl bz rw kf) H → va_D A (wX a cI cL pl cd bs br un ow ki th cm tr tl ch jl bz rw kf) → va_S A s.heap H locs → lv_has ls 7 [(0, .ref (a 0)), (3, .long s1.1), (5, .int s1.2)] → jx_Wl p l e wsX6_withTerms ({ frames := 3, cells := 0, slots := 0, locals := 67 }) s m [.ref (a 0), .long p0] below meth c D [(cI, .int), (cL, .long)] res (wX a cI cL pl cd bs br un ow ki th cm tr tl ch jl bz rw kf) A H locs (F0 m 5 ls []) := by
    clear hf hP hD hS hl
    intro n
    induction n with
    | zero => intro s1 _ _ _ hf; cases hf
    | succ n ihk2 =>
      intro s1 H locs ls hf hP hD hS hl
      obtain ⟨q3, hf, hgk2⟩ := jx_bs hf
      refine lv_iload hx hb dX6_withTerms_5 (lv_at hl 2 rfl) ?_
      refine lv_aload_n hx hb dX6_withTerms_7 rfl (lv_at hl 0 rfl) ?_
      refine va_get (D := D) (ci := 5) (v := .ref (a 3)) (C := RX6) (T := TX6) (N := 5) hx hb hts iw_X6_withTerms_X6 hown hK hP 0 rfl rfl 1 (by decide) (hts (.fieldLink RX6 19 "PassedDuties" "book" "LPassedDuties$Book;") (by decide +kernel)) (fun _ h9 => h9) rfl dX6_withTerms_8 ?_
      refine va_getN (D := D) (ci := 0) (v := .int bs) (C := RX0) (T := TX0) (N := 2) hx hb hts iw_X6_withTerms_X0 hown hK hP 3 rfl rfl 1 (by decide) (va_Nw.use rfl (hN (.fieldLinkNest "PassedDuties" 153 "PassedDuties$Book" "size" "I" "PassedDuties") (by decide +kernel))) (fun _ h9 => h9) rfl dX6_withTerms_11 ?_
      refine lv_icmp_ge (tgt := 53) hx hb dX6_withTerms_14 (by decide) (fun hq => ?_) (fun hq => ?_)
      · replace hf := jx_pos hq hf
        have he := jx_eq hf
        subst he
        have he : _ = k2 := jx_eq hgk2
        subst he
        exact hXk2 _ _ _ hP hD hS (lv_sub hl [1] rfl)
      · replace hf := jx_neg hq hf
        refine lv_iconst (v := 0) hx hb dX6_withTerms_17 (by decide) ?_
        refine lv_istore (lv' := [(6, .int (0 : Int32)), (0, .ref (a 0)), (3, .long s1.1), (5, .int s1.2)]) hx hb dX6_withTerms_18 hl (by decide) rfl (fun ls hl => ?_)
        obtain ⟨k5, hf, hkk5⟩ := jx_bs hf
        have hXk5 : ∀ (H : Heap) (locs : List Loc) (ls : Array Slot), va_P D vwCl (wX a cI cL pl cd bs br un ow ki th cm tr tl ch jl bz rw kf) H → va_D A (wX a cI cL pl cd bs br un ow ki th cm tr tl ch jl bz rw kf) → va_S A s.heap H locs → lv_has ls 7 [(0, .ref (a 0)), (3, .long k5), (5, .int s1.2)] → jx_Wl p l e wsX6_withTerms ({ frames := 3, cells := 0, slots := 0, locals := 67 }) s m [.ref (a 0), .long p0] below meth c D [(cI, .int), (cL, .long)] res (wX a cI cL pl cd bs br un ow ki th cm tr tl ch jl bz rw kf) A H locs (F0 m 47 ls []) := by
          clear hf hP hD hS hl
          intro H locs ls hP hD hS hl
          have hf := hkk5
          refine lv_iinc (v := (s1.2 + (1 : Int32))) (lv' := [(5, .int (s1.2 + (1 : Int32))), (0, .ref (a 0)), (3, .long k5)]) hx hb dX6_withTerms_47 hl (k := 2) rfl rfl (by decide) rfl (fun ls hl => ?_)
          refine lv_goto (tgt := 5) hx hb dX6_withTerms_50 (by decide) ?_
          have he := jx_eq hf
          subst he
          exact ihk2 (k5, (s1.2 + (1 : Int32))) _ _ _ hgk2 hP hD hS (lv_sub hl [1, 2, 0] rfl)
        have hLk5 : ∀ (n : Nat) (s4 : (Int64 × Int32)) (H : Heap) (locs : List Loc) (ls : Array Slot), jx_iter (pf_X6_withTerms_s2 bs br s1) n s4 = some k5 → va_P D vwCl (wX a cI cL pl cd bs br un ow ki th cm tr tl ch jl bz rw kf) H → va_D A (wX a cI cL pl cd bs br un ow ki th cm tr tl ch jl bz rw kf) → va_S A s.heap H locs → lv_has ls 7 [(0, .ref (a 0)), (3, .long s4.1), (5, .int s1.2), (6, .int s4.2)] → jx_Wl p l e wsX6_withTerms ({ frames := 3, cells := 0, slots := 0, locals := 67 }) s m [.ref (a 0), .long p0] below meth c D [(cI, .int), (cL, .long)] res (wX a cI cL pl cd bs br un ow ki th cm tr tl ch jl bz rw kf) A H locs (F0 m 20 ls []) := by
          clear hf hP hD hS hl
          intro n
          induction n with
          | zero => intro s4 _ _ _ hf; cases hf
          | succ n ihk5 =>
            intro s4 H locs ls hf hP hD hS hl
            obtain ⟨q6, hf, hgk5⟩ := jx_bs hf
            refine lv_iload hx hb dX6_withTerms_20 (lv_at hl 3 rfl) ?_
            refine lv_bipush (v := 12) hx hb dX6_withTerms_22 (by decide) ?_
            refine lv_icmp_ge (tgt := 47) hx hb dX6_withTerms_24 (by decide) (fun hq => ?_) (fun hq => ?_)
            · replace hf := jx_pos hq hf
              have he := jx_eq hf
              subst he
              have he : _ = k5 := jx_eq hgk5
              subst he
              exact hXk5 _ _ _ hP hD hS (lv_sub hl [0, 1, 2] rfl)
            · replace hf := jx_neg hq hf
              refine lv_lload_n hx hb dX6_withTerms_27 rfl (lv_at hl 1 rfl) ?_
              refine lv_aload_n hx hb dX6_withTerms_28 rfl (lv_at hl 0 rfl) ?_
              refine lv_iload hx hb dX6_withTerms_29 (lv_at hl 2 rfl) ?_
              refine lv_iload hx hb dX6_withTerms_31 (lv_at hl 3 rfl) ?_
              obtain ⟨r7, hc, hf⟩ := jx_bs hf
              refine jx_ki (wr := []) (ws2 := (wX a cI cL pl cd bs br un ow ki th cm tr tl ch jl bz rw kf)) (jx_runV (As := [.int s1.2, .int s4.2]) (rest := [.long s4.1]) ⟨hx, hb, hml, hown, hts⟩ (c_X6_reach l D a cI cL pl cd bs br un ow ki th cm tr tl ch jl bz rw kf s1.2 s4.2 r7 hc _) (cwV 2 hts gX6_withTerms_X6_reach rfl rfl rfl (by decide +kernel) ⟨Nat.le_of_ble_eq_true rfl, Nat.le_of_ble_eq_true rfl⟩) hK hN hP hD [0, 1, 2, 3, 4, 5, 6, 7, 8, 9, 10, 11, 12, 13, 14, 15] rfl (by decide) 0 5 rfl rfl rfl hl.1 rfl (Nat.le_of_ble_eq_true rfl) dX6_withTerms_33 ⟨Nat.le_of_ble_eq_true rfl, Nat.le_of_ble_eq_true rfl⟩) hP hD hS hA [0, 1, 2, 3, 4, 5, 6, 7, 8, 9, 10, 11, 12, 13, 14, 15] [] [0, 1, 2, 3, 4, 5, 6, 7, 8, 9, 10, 11, 12, 13, 14, 15] rfl rfl (by decide) (by decide) rfl (by decide) (fun H locs hP hD hS => ?_)
              clear hc
              refine lv_i2l (v := (r7).toInt64) hx hb dX6_withTerms_36 rfl ?_
              obtain ⟨r8, hc, hf⟩ := jx_bs hf
              refine jx_kl (wr := [((a 0), .inr (5, [.ref (a 1), .ref (a 3), .ref (a 5), .ref (a 11), .ref (a 13)])), ((a 1), .inr (2, [.ref (a 2), .int pl])), ((a 2), .inl (cI, 24, .inl cd)), ((a 3), .inr (0, [.ref (a 4), .int bs])), ((a 4), .inl (cL, 8, .inr (.inl br))), ((a 5), .inr (3, [.ref (a 6), .ref (a 7), .ref (a 8), .ref (a 9), .ref (a 10), .int tr, .int tl, .int ch])), ((a 6), .inl (cI, 8, .inl un)), ((a 7), .inl (cL, 8, .inr (.inl ow))), ((a 8), .inl (cI, 64, .inl ki)), ((a 9), .inl (cL, 64, .inr (.inl th))), ((a 10), .inl (cL, 8, .inr (.inl cm))), ((a 11), .inr (4, [.ref (a 5), .ref (a 12)])), ((a 12), .inl (cI, 8, .inl jl)), ((a 13), .inr (1, [.ref (a 5), .ref (a 14), .ref (a 15), .int kf])), ((a 14), .inl (cL, 256, .inr (.inl bz))), ((a 15), .inl (cL, 8, .inr (.inl rw)))]) (ws2 := (wX a cI cL pl cd bs br un ow ki th cm tr tl ch jl bz rw kf)) (jx_runS (As := [.long s4.1, .long (r7).toInt64]) (rest := []) ⟨hx, hb, hml, hown, hts⟩ (c_X6_mix l D a cI cL s4.1 (r7).toInt64 r8 hc _) (va_cwS 2 hts gX6_withTerms_X6_mix rfl rfl rfl (by decide +kernel) ⟨Nat.le_of_ble_eq_true rfl, Nat.le_of_ble_eq_true rfl⟩) hK hN hP hD [] rfl (by decide) rfl hl.1 rfl (Nat.le_of_ble_eq_true rfl) dX6_withTerms_37 ⟨Nat.le_of_ble_eq_true rfl, Nat.le_of_ble_eq_true rfl⟩) hP hD hS hA [] [0, 1, 2, 3, 4, 5, 6, 7, 8, 9, 10, 11, 12, 13, 14, 15] [0, 1, 2, 3, 4, 5, 6, 7, 8, 9, 10, 11, 12, 13, 14, 15] rfl rfl (by decide) (by decide) rfl (by decide) (fun H locs hP hD hS => ?_)
              clear hc
              refine lv_lstore_n (lv' := [(3, .long r8), (0, .ref (a 0)), (5, .int s1.2), (6, .int s4.2)]) hx hb dX6_withTerms_40 rfl hl (by decide) rfl (fun ls hl => ?_)
              refine lv_iinc (v := (s4.2 + (1 : Int32))) (lv' := [(6, .int (s4.2 + (1 : Int32))), (3, .long r8), (0, .ref (a 0)), (5, .int s1.2)]) hx hb dX6_withTerms_41 hl (k := 3) rfl rfl (by decide) rfl (fun ls hl => ?_)
              refine lv_goto (tgt := 20) hx hb dX6_withTerms_44 (by decide) ?_
              have he := jx_eq hf
              subst he
              exact ihk5 (r8, (s4.2 + (1 : Int32))) _ _ _ hgk5 hP hD hS (lv_sub hl [2, 1, 3, 0] rfl)
        exact hLk5 jx_F (s1.1, (0 : Int32)) _ _ _ hf hP hD hS (lv_sub hl [1, 2, 3, 0] rfl)
  exact hLk2 jx_F (p0, (0 : Int32)) _ _ _ hf hP hD hS (lv_sub hl [2, 1, 0] rfl)
theorem iw_X6_of_X3 : ∀ w ∈ wsX30, w ∈ wsX6_of := by decide +kernel
theorem iw_X6_of_X6 : ∀ w ∈ wsX60, w ∈ wsX6_of := by decide +kernel
set_option maxHeartbeats 4000000 in
set_option maxRecDepth 100000 in
theorem c_X6_of (l : Launch) (D : va_G) (a : Nat → Nat) (cI cL : ClassId) (pl : Int32) (cd : (Nat → Int32)) (bs : Int32) (br : (Nat → Int64)) (un : (Nat → Int32)) (ow : (Nat → Int64)) (ki : (Nat → Int32)) (th : (Nat → Int64)) (cm : (Nat → Int64)) (tr : Int32) (tl : Int32) (ch : Int32) (jl : (Nat → Int32)) (bz : (Nat → Int64)) (rw : (Nat → Int64)) (kf : Int32) (p0 : Int32) (p1 : Int32) (res : Int32) (hf : pf_X6_of un ki cm tr p0 p1 = some res) : jMi l yX6_of wsX6_of ({ frames := 3, cells := 0, slots := 0, locals := 70 }) D [(cI, .int), (cL, .long)] [.ref (a 0), .int p0, .int p1] (wX a cI cL pl cd bs br un ow ki th cm tr tl ch jl bz rw kf) res (wX a cI cL pl cd bs br un ow ki th cm tr tl ch jl bz rw kf) := by
  intro sz
  refine Met.ofW (cc := cX6_of) (maxL := 3) (ret := (some .int)) (by decide) rfl ?_
  intro p e s m args below meth c s₁ B hml hv
  obtain ⟨rfl, hsz, hP, hK, hD0, hN⟩ := hv
  have hx := B.exec
  have hb := B.bytes
  have hr := B.returns
  have hts := atoms_spec (ws := wsX6_of) B.pre
  have hown : s.vm.findClass RX6 = some m.cls := findClass_of_methodNamed B.named
  have hlocks := B.notSynchronized
  subst hsz
  have hD := hD0.self (sz := s.heap.size)
  generalize hAe : va_A (wX a cI cL pl cd bs br un ow ki th cm tr tl ch jl bz rw kf) s.heap.size = A at hD ⊢
  have hA : ∀ q : Nat, s.heap.size ≤ q → A q := fun q h => by rw [← hAe]; exact Or.inr h
  have hS : va_S A s.heap s.heap [] := va_S.rf
  have hl := lv_entry ([.ref (a 0), .int p0, .int p1]) (n := 3) (Nat.le_of_ble_eq_true rfl)
  rw [lg_entry_eq]
  generalize (lg_sl ([.ref (a 0), .int p0, .int p1]) ++ List.replicate (3 - (lg_sl ([.ref (a 0), .int p0, .int p1])).length) Slot.unset).toArray = ls at hl ⊢
  have hl : lv_has ls 3 [(0, .ref (a 0)), (1, .int p0), (2, .int p1)] := hl
  have hf : pf_X6_of un ki cm tr p0 p1 = some res := hf
  refine lv_aload_n hx hb dX6_of_0 rfl (lv_at hl 0 rfl) ?_
  refine va_get (D := D) (ci := 5) (v := .ref (a 5)) (C := RX6) (T := TX6) (N := 5) hx hb hts iw_X6_of_X6 hown hK hP 0 rfl rfl 2 (by decide) (hts (.fieldLink RX6 26 "PassedDuties" "parts" "LPassedDuties$Parts;") (by decide +kernel)) (fun _ h9 => h9) rfl dX6_of_1 ?_
  refine lv_iload_n hx hb dX6_of_4 rfl (lv_at hl 1 rfl) ?_
  obtain ⟨r1, hc, hf⟩ := jx_bs hf
  refine jx_ki (wr := [((a 0), .inr (5, [.ref (a 1), .ref (a 3), .ref (a 5), .ref (a 11), .ref (a 13)])), ((a 1), .inr (2, [.ref (a 2), .int pl])), ((a 2), .inl (cI, 24, .inl cd)), ((a 3), .inr (0, [.ref (a 4), .int bs])), ((a 4), .inl (cL, 8, .inr (.inl br))), ((a 11), .inr (4, [.ref (a 5), .ref (a 12)])), ((a 12), .inl (cI, 8, .inl jl)), ((a 13), .inr (1, [.ref (a 5), .ref (a 14), .ref (a 15), .int kf])), ((a 14), .inl (cL, 256, .inr (.inl bz))), ((a 15), .inl (cL, 8, .inr (.inl rw)))]) (ws2 := (wX a cI cL pl cd bs br un ow ki th cm tr tl ch jl bz rw kf)) (jx_runV (As := [.int p0]) (rest := []) ⟨hx, hb, hml, hown, hts⟩ (c_X3_has l D a cI cL un ow ki th cm tr tl ch p0 r1 hc _) (cwV 1 hts gX6_of_X3_has rfl rfl rfl (by decide +kernel) ⟨Nat.le_of_ble_eq_true rfl, Nat.le_of_ble_eq_true rfl⟩) hK hN hP hD [5, 6, 7, 8, 9, 10] rfl (by decide) 5 3 rfl rfl rfl hl.1 rfl (Nat.le_of_ble_eq_true rfl) dX6_of_5 ⟨Nat.le_of_ble_eq_true rfl, Nat.le_of_ble_eq_true rfl⟩) hP hD hS hA [5, 6, 7, 8, 9, 10] [0, 1, 2, 3, 4, 11, 12, 13, 14, 15] [0, 1, 2, 3, 4, 10, 11, 12, 13, 14, 15, 5, 6, 7, 8, 9] rfl rfl (by decide) (by decide) rfl (by decide) (fun H locs hP hD hS => ?_)
  clear hc
  refine lv_if_ne (tgt := 15) hx hb dX6_of_8 (by decide) (fun hq => ?_) (fun hq => ?_)
  · replace hf := jx_pos hq hf
    refine lv_iload_n hx hb dX6_of_15 rfl (lv_at hl 2 rfl) ?_
    by_cases hq0 : p1 = (0 : Int32)
    · replace hf := jx_pos hq0 hf
      refine lv_tableIn (off := 44) (tgt := 60) hx hb dX6_of_16 (by rw [hq0]; decide) (by rw [hq0]; decide) (by rw [hq0]; decide) (by decide) ?_
      refine lv_aload_n hx hb dX6_of_60 rfl (lv_at hl 0 rfl) ?_
      refine va_get (D := D) (ci := 5) (v := .ref (a 5)) (C := RX6) (T := TX6) (N := 5) hx hb hts iw_X6_of_X6 hown hK hP 0 rfl rfl 2 (by decide) (hts (.fieldLink RX6 26 "PassedDuties" "parts" "LPassedDuties$Parts;") (by decide +kernel)) (fun _ h9 => h9) rfl dX6_of_61 ?_
      refine va_getN (D := D) (ci := 3) (v := .ref (a 6)) (C := RX3) (T := TX3) (N := 8) hx hb hts iw_X6_of_X3 hown hK hP 5 rfl rfl 0 (by decide) (va_Nw.use rfl (hN (.fieldLinkNest "PassedDuties" 101 "PassedDuties$Parts" "under" "[I" "PassedDuties") (by decide +kernel))) (fun _ h9 => h9) rfl dX6_of_64 ?_
      refine lv_iload_n hx hb dX6_of_67 rfl (lv_at hl 1 rfl) ?_
      obtain ⟨hi, hf⟩ := jx_gs hf
      refine va_iald hx hb hK hP 6 0 rfl rfl (jx_ip hi) dX6_of_68 ?_
      clear hi
      have he := jx_eq hf
      subst he
      exact jx_reti hx hb hr hlocks rfl hK hP hD hS dX6_of_69
    replace hf := jx_neg hq0 hf
    by_cases hq1 : p1 = (1 : Int32)
    · replace hf := jx_pos hq1 hf
      refine lv_tableIn (off := 54) (tgt := 70) hx hb dX6_of_16 (by rw [hq1]; decide) (by rw [hq1]; decide) (by rw [hq1]; decide) (by decide) ?_
      refine lv_aload_n hx hb dX6_of_70 rfl (lv_at hl 0 rfl) ?_
      refine va_get (D := D) (ci := 5) (v := .ref (a 5)) (C := RX6) (T := TX6) (N := 5) hx hb hts iw_X6_of_X6 hown hK hP 0 rfl rfl 2 (by decide) (hts (.fieldLink RX6 26 "PassedDuties" "parts" "LPassedDuties$Parts;") (by decide +kernel)) (fun _ h9 => h9) rfl dX6_of_71 ?_
      refine va_getN (D := D) (ci := 3) (v := .ref (a 10)) (C := RX3) (T := TX3) (N := 8) hx hb hts iw_X6_of_X3 hown hK hP 5 rfl rfl 4 (by decide) (va_Nw.use rfl (hN (.fieldLinkNest "PassedDuties" 116 "PassedDuties$Parts" "come" "[J" "PassedDuties") (by decide +kernel))) (fun _ h9 => h9) rfl dX6_of_74 ?_
      refine lv_iload_n hx hb dX6_of_77 rfl (lv_at hl 1 rfl) ?_
      obtain ⟨hi, hf⟩ := jx_gs hf
      refine va_lald hx hb hK hP 10 1 rfl rfl (jx_ip hi) dX6_of_78 ?_
      clear hi
      obtain ⟨r2, hc, hf⟩ := jx_bs hf
      refine jx_ki (wr := [((a 0), .inr (5, [.ref (a 1), .ref (a 3), .ref (a 5), .ref (a 11), .ref (a 13)])), ((a 1), .inr (2, [.ref (a 2), .int pl])), ((a 2), .inl (cI, 24, .inl cd)), ((a 3), .inr (0, [.ref (a 4), .int bs])), ((a 4), .inl (cL, 8, .inr (.inl br))), ((a 5), .inr (3, [.ref (a 6), .ref (a 7), .ref (a 8), .ref (a 9), .ref (a 10), .int tr, .int tl, .int ch])), ((a 6), .inl (cI, 8, .inl un)), ((a 7), .inl (cL, 8, .inr (.inl ow))), ((a 8), .inl (cI, 64, .inl ki)), ((a 9), .inl (cL, 64, .inr (.inl th))), ((a 10), .inl (cL, 8, .inr (.inl cm))), ((a 11), .inr (4, [.ref (a 5), .ref (a 12)])), ((a 12), .inl (cI, 8, .inl jl)), ((a 13), .inr (1, [.ref (a 5), .ref (a 14), .ref (a 15), .int kf])), ((a 14), .inl (cL, 256, .inr (.inl bz))), ((a 15), .inl (cL, 8, .inr (.inl rw)))]) (ws2 := (wX a cI cL pl cd bs br un ow ki th cm tr tl ch jl bz rw kf)) (jx_runS (As := [.long (cm (p0).toNatClampNeg)]) (rest := []) ⟨hx, hb, hml, hown, hts⟩ (c_X4_duties l D a cI cL (cm (p0).toNatClampNeg) r2 hc _) (va_cwS 1 hts gX6_of_X4_duties rfl rfl rfl (by decide +kernel) ⟨Nat.le_of_ble_eq_true rfl, Nat.le_of_ble_eq_true rfl⟩) hK hN hP hD [] rfl (by decide) rfl hl.1 rfl (Nat.le_of_ble_eq_true rfl) dX6_of_79 ⟨Nat.le_of_ble_eq_true rfl, Nat.le_of_ble_eq_true rfl⟩) hP hD hS hA [] [0, 1, 2, 3, 4, 5, 6, 7, 8, 9, 10, 11, 12, 13, 14, 15] [0, 1, 2, 3, 4, 5, 6, 7, 8, 9, 10, 11, 12, 13, 14, 15] rfl rfl (by decide) (by decide) rfl (by decide) (fun H locs hP hD hS => ?_)
      clear hc
      have he := jx_eq hf
      subst he
      exact jx_reti hx hb hr hlocks rfl hK hP hD hS dX6_of_82
    replace hf := jx_neg hq1 hf
    by_cases hq2 : p1 = (2 : Int32)
    · replace hf := jx_pos hq2 hf
      refine lv_tableIn (off := 67) (tgt := 83) hx hb dX6_of_16 (by rw [hq2]; decide) (by rw [hq2]; decide) (by rw [hq2]; decide) (by decide) ?_
      refine lv_aload_n hx hb dX6_of_83 rfl (lv_at hl 0 rfl) ?_
      refine va_get (D := D) (ci := 5) (v := .ref (a 5)) (C := RX6) (T := TX6) (N := 5) hx hb hts iw_X6_of_X6 hown hK hP 0 rfl rfl 2 (by decide) (hts (.fieldLink RX6 26 "PassedDuties" "parts" "LPassedDuties$Parts;") (by decide +kernel)) (fun _ h9 => h9) rfl dX6_of_84 ?_
      refine va_getN (D := D) (ci := 3) (v := .ref (a 10)) (C := RX3) (T := TX3) (N := 8) hx hb hts iw_X6_of_X3 hown hK hP 5 rfl rfl 4 (by decide) (va_Nw.use rfl (hN (.fieldLinkNest "PassedDuties" 116 "PassedDuties$Parts" "come" "[J" "PassedDuties") (by decide +kernel))) (fun _ h9 => h9) rfl dX6_of_87 ?_
      refine lv_iload_n hx hb dX6_of_90 rfl (lv_at hl 1 rfl) ?_
      obtain ⟨hi, hf⟩ := jx_gs hf
      refine va_lald hx hb hK hP 10 1 rfl rfl (jx_ip hi) dX6_of_91 ?_
      clear hi
      obtain ⟨r3, hc, hf⟩ := jx_bs hf
      refine jx_ki (wr := [((a 0), .inr (5, [.ref (a 1), .ref (a 3), .ref (a 5), .ref (a 11), .ref (a 13)])), ((a 1), .inr (2, [.ref (a 2), .int pl])), ((a 2), .inl (cI, 24, .inl cd)), ((a 3), .inr (0, [.ref (a 4), .int bs])), ((a 4), .inl (cL, 8, .inr (.inl br))), ((a 5), .inr (3, [.ref (a 6), .ref (a 7), .ref (a 8), .ref (a 9), .ref (a 10), .int tr, .int tl, .int ch])), ((a 6), .inl (cI, 8, .inl un)), ((a 7), .inl (cL, 8, .inr (.inl ow))), ((a 8), .inl (cI, 64, .inl ki)), ((a 9), .inl (cL, 64, .inr (.inl th))), ((a 10), .inl (cL, 8, .inr (.inl cm))), ((a 11), .inr (4, [.ref (a 5), .ref (a 12)])), ((a 12), .inl (cI, 8, .inl jl)), ((a 13), .inr (1, [.ref (a 5), .ref (a 14), .ref (a 15), .int kf])), ((a 14), .inl (cL, 256, .inr (.inl bz))), ((a 15), .inl (cL, 8, .inr (.inl rw)))]) (ws2 := (wX a cI cL pl cd bs br un ow ki th cm tr tl ch jl bz rw kf)) (jx_runS (As := [.long (cm (p0).toNatClampNeg)]) (rest := []) ⟨hx, hb, hml, hown, hts⟩ (c_X4_bars l D a cI cL (cm (p0).toNatClampNeg) r3 hc _) (va_cwS 1 hts gX6_of_X4_bars rfl rfl rfl (by decide +kernel) ⟨Nat.le_of_ble_eq_true rfl, Nat.le_of_ble_eq_true rfl⟩) hK hN hP hD [] rfl (by decide) rfl hl.1 rfl (Nat.le_of_ble_eq_true rfl) dX6_of_92 ⟨Nat.le_of_ble_eq_true rfl, Nat.le_of_ble_eq_true rfl⟩) hP hD hS hA [] [0, 1, 2, 3, 4, 5, 6, 7, 8, 9, 10, 11, 12, 13, 14, 15] [0, 1, 2, 3, 4, 5, 6, 7, 8, 9, 10, 11, 12, 13, 14, 15] rfl rfl (by decide) (by decide) rfl (by decide) (fun H locs hP hD hS => ?_)
      clear hc
      have he := jx_eq hf
      subst he
      exact jx_reti hx hb hr hlocks rfl hK hP hD hS dX6_of_95
    replace hf := jx_neg hq2 hf
    by_cases hq3 : p1 = (3 : Int32)
    · replace hf := jx_pos hq3 hf
      refine lv_tableIn (off := 80) (tgt := 96) hx hb dX6_of_16 (by rw [hq3]; decide) (by rw [hq3]; decide) (by rw [hq3]; decide) (by decide) ?_
      refine lv_aload_n hx hb dX6_of_96 rfl (lv_at hl 0 rfl) ?_
      refine va_get (D := D) (ci := 5) (v := .ref (a 5)) (C := RX6) (T := TX6) (N := 5) hx hb hts iw_X6_of_X6 hown hK hP 0 rfl rfl 2 (by decide) (hts (.fieldLink RX6 26 "PassedDuties" "parts" "LPassedDuties$Parts;") (by decide +kernel)) (fun _ h9 => h9) rfl dX6_of_97 ?_
      refine va_getN (D := D) (ci := 3) (v := .ref (a 10)) (C := RX3) (T := TX3) (N := 8) hx hb hts iw_X6_of_X3 hown hK hP 5 rfl rfl 4 (by decide) (va_Nw.use rfl (hN (.fieldLinkNest "PassedDuties" 116 "PassedDuties$Parts" "come" "[J" "PassedDuties") (by decide +kernel))) (fun _ h9 => h9) rfl dX6_of_100 ?_
      refine lv_iload_n hx hb dX6_of_103 rfl (lv_at hl 1 rfl) ?_
      obtain ⟨hi, hf⟩ := jx_gs hf
      refine va_lald hx hb hK hP 10 1 rfl rfl (jx_ip hi) dX6_of_104 ?_
      clear hi
      obtain ⟨r4, hc, hf⟩ := jx_bs hf
      refine jx_ki (wr := [((a 0), .inr (5, [.ref (a 1), .ref (a 3), .ref (a 5), .ref (a 11), .ref (a 13)])), ((a 1), .inr (2, [.ref (a 2), .int pl])), ((a 2), .inl (cI, 24, .inl cd)), ((a 3), .inr (0, [.ref (a 4), .int bs])), ((a 4), .inl (cL, 8, .inr (.inl br))), ((a 5), .inr (3, [.ref (a 6), .ref (a 7), .ref (a 8), .ref (a 9), .ref (a 10), .int tr, .int tl, .int ch])), ((a 6), .inl (cI, 8, .inl un)), ((a 7), .inl (cL, 8, .inr (.inl ow))), ((a 8), .inl (cI, 64, .inl ki)), ((a 9), .inl (cL, 64, .inr (.inl th))), ((a 10), .inl (cL, 8, .inr (.inl cm))), ((a 11), .inr (4, [.ref (a 5), .ref (a 12)])), ((a 12), .inl (cI, 8, .inl jl)), ((a 13), .inr (1, [.ref (a 5), .ref (a 14), .ref (a 15), .int kf])), ((a 14), .inl (cL, 256, .inr (.inl bz))), ((a 15), .inl (cL, 8, .inr (.inl rw)))]) (ws2 := (wX a cI cL pl cd bs br un ow ki th cm tr tl ch jl bz rw kf)) (jx_runS (As := [.long (cm (p0).toNatClampNeg)]) (rest := []) ⟨hx, hb, hml, hown, hts⟩ (c_X4_meeting l D a cI cL (cm (p0).toNatClampNeg) r4 hc _) (va_cwS 1 hts gX6_of_X4_meeting rfl rfl rfl (by decide +kernel) ⟨Nat.le_of_ble_eq_true rfl, Nat.le_of_ble_eq_true rfl⟩) hK hN hP hD [] rfl (by decide) rfl hl.1 rfl (Nat.le_of_ble_eq_true rfl) dX6_of_105 ⟨Nat.le_of_ble_eq_true rfl, Nat.le_of_ble_eq_true rfl⟩) hP hD hS hA [] [0, 1, 2, 3, 4, 5, 6, 7, 8, 9, 10, 11, 12, 13, 14, 15] [0, 1, 2, 3, 4, 5, 6, 7, 8, 9, 10, 11, 12, 13, 14, 15] rfl rfl (by decide) (by decide) rfl (by decide) (fun H locs hP hD hS => ?_)
      clear hc
      have he := jx_eq hf
      subst he
      exact jx_reti hx hb hr hlocks rfl hK hP hD hS dX6_of_108
    replace hf := jx_neg hq3 hf
    by_cases hq4 : p1 = (4 : Int32)
    · replace hf := jx_pos hq4 hf
      refine lv_tableIn (off := 93) (tgt := 109) hx hb dX6_of_16 (by rw [hq4]; decide) (by rw [hq4]; decide) (by rw [hq4]; decide) (by decide) ?_
      refine lv_aload_n hx hb dX6_of_109 rfl (lv_at hl 0 rfl) ?_
      refine va_get (D := D) (ci := 5) (v := .ref (a 5)) (C := RX6) (T := TX6) (N := 5) hx hb hts iw_X6_of_X6 hown hK hP 0 rfl rfl 2 (by decide) (hts (.fieldLink RX6 26 "PassedDuties" "parts" "LPassedDuties$Parts;") (by decide +kernel)) (fun _ h9 => h9) rfl dX6_of_110 ?_
      refine lv_iload_n hx hb dX6_of_113 rfl (lv_at hl 1 rfl) ?_
      obtain ⟨r5, hc, hf⟩ := jx_bs hf
      refine jx_ki (wr := [((a 0), .inr (5, [.ref (a 1), .ref (a 3), .ref (a 5), .ref (a 11), .ref (a 13)])), ((a 1), .inr (2, [.ref (a 2), .int pl])), ((a 2), .inl (cI, 24, .inl cd)), ((a 3), .inr (0, [.ref (a 4), .int bs])), ((a 4), .inl (cL, 8, .inr (.inl br))), ((a 11), .inr (4, [.ref (a 5), .ref (a 12)])), ((a 12), .inl (cI, 8, .inl jl)), ((a 13), .inr (1, [.ref (a 5), .ref (a 14), .ref (a 15), .int kf])), ((a 14), .inl (cL, 256, .inr (.inl bz))), ((a 15), .inl (cL, 8, .inr (.inl rw)))]) (ws2 := (wX a cI cL pl cd bs br un ow ki th cm tr tl ch jl bz rw kf)) (jx_runV (As := [.int p0]) (rest := []) ⟨hx, hb, hml, hown, hts⟩ (c_X3_namesOf l D a cI cL un ow ki th cm tr tl ch p0 r5 hc _) (cwV 1 hts gX6_of_X3_namesOf rfl rfl rfl (by decide +kernel) ⟨Nat.le_of_ble_eq_true rfl, Nat.le_of_ble_eq_true rfl⟩) hK hN hP hD [5, 6, 7, 8, 9, 10] rfl (by decide) 5 3 rfl rfl rfl hl.1 rfl (Nat.le_of_ble_eq_true rfl) dX6_of_114 ⟨Nat.le_of_ble_eq_true rfl, Nat.le_of_ble_eq_true rfl⟩) hP hD hS hA [5, 6, 7, 8, 9, 10] [0, 1, 2, 3, 4, 11, 12, 13, 14, 15] [0, 1, 2, 3, 4, 10, 11, 12, 13, 14, 15, 5, 6, 7, 8, 9] rfl rfl (by decide) (by decide) rfl (by decide) (fun H locs hP hD hS => ?_)
      clear hc
      have he := jx_eq hf
      subst he
      exact jx_reti hx hb hr hlocks rfl hK hP hD hS dX6_of_117
    replace hf := jx_neg hq4 hf
    by_cases hq5 : p1 = (5 : Int32)
    · replace hf := jx_pos hq5 hf
      refine lv_tableIn (off := 102) (tgt := 118) hx hb dX6_of_16 (by rw [hq5]; decide) (by rw [hq5]; decide) (by rw [hq5]; decide) (by decide) ?_
      refine lv_aload_n hx hb dX6_of_118 rfl (lv_at hl 0 rfl) ?_
      refine va_get (D := D) (ci := 5) (v := .ref (a 5)) (C := RX6) (T := TX6) (N := 5) hx hb hts iw_X6_of_X6 hown hK hP 0 rfl rfl 2 (by decide) (hts (.fieldLink RX6 26 "PassedDuties" "parts" "LPassedDuties$Parts;") (by decide +kernel)) (fun _ h9 => h9) rfl dX6_of_119 ?_
      refine lv_iload_n hx hb dX6_of_122 rfl (lv_at hl 1 rfl) ?_
      obtain ⟨r6, hc, hf⟩ := jx_bs hf
      refine jx_ki (wr := [((a 0), .inr (5, [.ref (a 1), .ref (a 3), .ref (a 5), .ref (a 11), .ref (a 13)])), ((a 1), .inr (2, [.ref (a 2), .int pl])), ((a 2), .inl (cI, 24, .inl cd)), ((a 3), .inr (0, [.ref (a 4), .int bs])), ((a 4), .inl (cL, 8, .inr (.inl br))), ((a 11), .inr (4, [.ref (a 5), .ref (a 12)])), ((a 12), .inl (cI, 8, .inl jl)), ((a 13), .inr (1, [.ref (a 5), .ref (a 14), .ref (a 15), .int kf])), ((a 14), .inl (cL, 256, .inr (.inl bz))), ((a 15), .inl (cL, 8, .inr (.inl rw)))]) (ws2 := (wX a cI cL pl cd bs br un ow ki th cm tr tl ch jl bz rw kf)) (jx_runV (As := [.int p0]) (rest := []) ⟨hx, hb, hml, hown, hts⟩ (c_X3_joinsFrom l D a cI cL un ow ki th cm tr tl ch p0 r6 hc _) (cwV 1 hts gX6_of_X3_joinsFrom rfl rfl rfl (by decide +kernel) ⟨Nat.le_of_ble_eq_true rfl, Nat.le_of_ble_eq_true rfl⟩) hK hN hP hD [5, 6, 7, 8, 9, 10] rfl (by decide) 5 3 rfl rfl rfl hl.1 rfl (Nat.le_of_ble_eq_true rfl) dX6_of_123 ⟨Nat.le_of_ble_eq_true rfl, Nat.le_of_ble_eq_true rfl⟩) hP hD hS hA [5, 6, 7, 8, 9, 10] [0, 1, 2, 3, 4, 11, 12, 13, 14, 15] [0, 1, 2, 3, 4, 10, 11, 12, 13, 14, 15, 5, 6, 7, 8, 9] rfl rfl (by decide) (by decide) rfl (by decide) (fun H locs hP hD hS => ?_)
      clear hc
      have he := jx_eq hf
      subst he
      exact jx_reti hx hb hr hlocks rfl hK hP hD hS dX6_of_126
    replace hf := jx_neg hq5 hf
    by_cases hq6 : p1 = (6 : Int32)
    · replace hf := jx_pos hq6 hf
      refine lv_tableIn (off := 111) (tgt := 127) hx hb dX6_of_16 (by rw [hq6]; decide) (by rw [hq6]; decide) (by rw [hq6]; decide) (by decide) ?_
      refine lv_aload_n hx hb dX6_of_127 rfl (lv_at hl 0 rfl) ?_
      refine va_get (D := D) (ci := 5) (v := .ref (a 5)) (C := RX6) (T := TX6) (N := 5) hx hb hts iw_X6_of_X6 hown hK hP 0 rfl rfl 2 (by decide) (hts (.fieldLink RX6 26 "PassedDuties" "parts" "LPassedDuties$Parts;") (by decide +kernel)) (fun _ h9 => h9) rfl dX6_of_128 ?_
      refine lv_iload_n hx hb dX6_of_131 rfl (lv_at hl 1 rfl) ?_
      obtain ⟨r7, hc, hf⟩ := jx_bs hf
      refine jx_ki (wr := [((a 0), .inr (5, [.ref (a 1), .ref (a 3), .ref (a 5), .ref (a 11), .ref (a 13)])), ((a 1), .inr (2, [.ref (a 2), .int pl])), ((a 2), .inl (cI, 24, .inl cd)), ((a 3), .inr (0, [.ref (a 4), .int bs])), ((a 4), .inl (cL, 8, .inr (.inl br))), ((a 11), .inr (4, [.ref (a 5), .ref (a 12)])), ((a 12), .inl (cI, 8, .inl jl)), ((a 13), .inr (1, [.ref (a 5), .ref (a 14), .ref (a 15), .int kf])), ((a 14), .inl (cL, 256, .inr (.inl bz))), ((a 15), .inl (cL, 8, .inr (.inl rw)))]) (ws2 := (wX a cI cL pl cd bs br un ow ki th cm tr tl ch jl bz rw kf)) (jx_runV (As := [.int p0]) (rest := []) ⟨hx, hb, hml, hown, hts⟩ (c_X3_joinsTo l D a cI cL un ow ki th cm tr tl ch p0 r7 hc _) (cwV 1 hts gX6_of_X3_joinsTo rfl rfl rfl (by decide +kernel) ⟨Nat.le_of_ble_eq_true rfl, Nat.le_of_ble_eq_true rfl⟩) hK hN hP hD [5, 6, 7, 8, 9, 10] rfl (by decide) 5 3 rfl rfl rfl hl.1 rfl (Nat.le_of_ble_eq_true rfl) dX6_of_132 ⟨Nat.le_of_ble_eq_true rfl, Nat.le_of_ble_eq_true rfl⟩) hP hD hS hA [5, 6, 7, 8, 9, 10] [0, 1, 2, 3, 4, 11, 12, 13, 14, 15] [0, 1, 2, 3, 4, 10, 11, 12, 13, 14, 15, 5, 6, 7, 8, 9] rfl rfl (by decide) (by decide) rfl (by decide) (fun H locs hP hD hS => ?_)
      clear hc
      have he := jx_eq hf
      subst he
      exact jx_reti hx hb hr hlocks rfl hK hP hD hS dX6_of_135
    replace hf := jx_neg hq6 hf
    refine lv_tableOut (tgt := 136) hx hb dX6_of_16 (jx_sw6 p1 hq0 hq1 hq2 hq3 hq4 hq5 hq6) (by decide) ?_
    refine lv_sipush (v := -1002) hx hb dX6_of_136 (by decide) ?_
    have he := jx_eq hf
    subst he
    exact jx_reti hx hb hr hlocks rfl hK hP hD hS dX6_of_139
  · replace hf := jx_negn hq hf
    refine lv_sipush (v := -1001) hx hb dX6_of_11 (by decide) ?_
    have he := jx_eq hf
    subst he
    exact jx_reti hx hb hr hlocks rfl hK hP hD hS dX6_of_14
theorem iw_X6_held_X6 : ∀ w ∈ wsX60, w ∈ wsX6_held := by decide +kernel
set_option maxHeartbeats 4000000 in
set_option maxRecDepth 100000 in
theorem c_X6_held (l : Launch) (D : va_G) (a : Nat → Nat) (cI cL : ClassId) (pl : Int32) (cd : (Nat → Int32)) (bs : Int32) (br : (Nat → Int64)) (un : (Nat → Int32)) (ow : (Nat → Int64)) (ki : (Nat → Int32)) (th : (Nat → Int64)) (cm : (Nat → Int64)) (tr : Int32) (tl : Int32) (ch : Int32) (jl : (Nat → Int32)) (bz : (Nat → Int64)) (rw : (Nat → Int64)) (kf : Int32) (p0 : Int32) (p1 : Int32) (res : Int32) (hf : pf_X6_held cm tr p0 p1 = some res) : jMi l yX6_held wsX6_held ({ frames := 3, cells := 0, slots := 0, locals := 67 }) D [(cI, .int), (cL, .long)] [.ref (a 0), .int p0, .int p1] (wX a cI cL pl cd bs br un ow ki th cm tr tl ch jl bz rw kf) res (wX a cI cL pl cd bs br un ow ki th cm tr tl ch jl bz rw kf) := by
  intro sz
  refine Met.ofW (cc := cX6_held) (maxL := 3) (ret := (some .int)) (by decide) rfl ?_
  intro p e s m args below meth c s₁ B hml hv
  obtain ⟨rfl, hsz, hP, hK, hD0, hN⟩ := hv
  have hx := B.exec
  have hb := B.bytes
  have hr := B.returns
  have hts := atoms_spec (ws := wsX6_held) B.pre
  have hown : s.vm.findClass RX6 = some m.cls := findClass_of_methodNamed B.named
  have hlocks := B.notSynchronized
  subst hsz
  have hD := hD0.self (sz := s.heap.size)
  generalize hAe : va_A (wX a cI cL pl cd bs br un ow ki th cm tr tl ch jl bz rw kf) s.heap.size = A at hD ⊢
  have hA : ∀ q : Nat, s.heap.size ≤ q → A q := fun q h => by rw [← hAe]; exact Or.inr h
  have hS : va_S A s.heap s.heap [] := va_S.rf
  have hl := lv_entry ([.ref (a 0), .int p0, .int p1]) (n := 3) (Nat.le_of_ble_eq_true rfl)
  rw [lg_entry_eq]
  generalize (lg_sl ([.ref (a 0), .int p0, .int p1]) ++ List.replicate (3 - (lg_sl ([.ref (a 0), .int p0, .int p1])).length) Slot.unset).toArray = ls at hl ⊢
  have hl : lv_has ls 3 [(0, .ref (a 0)), (1, .int p0), (2, .int p1)] := hl
  have hf : pf_X6_held cm tr p0 p1 = some res := hf
  refine lv_aload_n hx hb dX6_held_0 rfl (lv_at hl 0 rfl) ?_
  refine va_get (D := D) (ci := 5) (v := .ref (a 5)) (C := RX6) (T := TX6) (N := 5) hx hb hts iw_X6_held_X6 hown hK hP 0 rfl rfl 2 (by decide) (hts (.fieldLink RX6 26 "PassedDuties" "parts" "LPassedDuties$Parts;") (by decide +kernel)) (fun _ h9 => h9) rfl dX6_held_1 ?_
  refine lv_iload_n hx hb dX6_held_4 rfl (lv_at hl 1 rfl) ?_
  obtain ⟨r1, hc, hf⟩ := jx_bs hf
  refine jx_ki (wr := [((a 0), .inr (5, [.ref (a 1), .ref (a 3), .ref (a 5), .ref (a 11), .ref (a 13)])), ((a 1), .inr (2, [.ref (a 2), .int pl])), ((a 2), .inl (cI, 24, .inl cd)), ((a 3), .inr (0, [.ref (a 4), .int bs])), ((a 4), .inl (cL, 8, .inr (.inl br))), ((a 11), .inr (4, [.ref (a 5), .ref (a 12)])), ((a 12), .inl (cI, 8, .inl jl)), ((a 13), .inr (1, [.ref (a 5), .ref (a 14), .ref (a 15), .int kf])), ((a 14), .inl (cL, 256, .inr (.inl bz))), ((a 15), .inl (cL, 8, .inr (.inl rw)))]) (ws2 := (wX a cI cL pl cd bs br un ow ki th cm tr tl ch jl bz rw kf)) (jx_runV (As := [.int p0]) (rest := []) ⟨hx, hb, hml, hown, hts⟩ (c_X3_has l D a cI cL un ow ki th cm tr tl ch p0 r1 hc _) (cwV 1 hts gX6_held_X3_has rfl rfl rfl (by decide +kernel) ⟨Nat.le_of_ble_eq_true rfl, Nat.le_of_ble_eq_true rfl⟩) hK hN hP hD [5, 6, 7, 8, 9, 10] rfl (by decide) 5 3 rfl rfl rfl hl.1 rfl (Nat.le_of_ble_eq_true rfl) dX6_held_5 ⟨Nat.le_of_ble_eq_true rfl, Nat.le_of_ble_eq_true rfl⟩) hP hD hS hA [5, 6, 7, 8, 9, 10] [0, 1, 2, 3, 4, 11, 12, 13, 14, 15] [0, 1, 2, 3, 4, 10, 11, 12, 13, 14, 15, 5, 6, 7, 8, 9] rfl rfl (by decide) (by decide) rfl (by decide) (fun H locs hP hD hS => ?_)
  clear hc
  refine lv_if_ne (tgt := 15) hx hb dX6_held_8 (by decide) (fun hq => ?_) (fun hq => ?_)
  · replace hf := jx_pos hq hf
    refine lv_iload_n hx hb dX6_held_15 rfl (lv_at hl 2 rfl) ?_
    obtain ⟨r2, hc, hf⟩ := jx_bs hf
    refine jx_ki (wr := [((a 0), .inr (5, [.ref (a 1), .ref (a 3), .ref (a 5), .ref (a 11), .ref (a 13)])), ((a 1), .inr (2, [.ref (a 2), .int pl])), ((a 2), .inl (cI, 24, .inl cd)), ((a 3), .inr (0, [.ref (a 4), .int bs])), ((a 4), .inl (cL, 8, .inr (.inl br))), ((a 5), .inr (3, [.ref (a 6), .ref (a 7), .ref (a 8), .ref (a 9), .ref (a 10), .int tr, .int tl, .int ch])), ((a 6), .inl (cI, 8, .inl un)), ((a 7), .inl (cL, 8, .inr (.inl ow))), ((a 8), .inl (cI, 64, .inl ki)), ((a 9), .inl (cL, 64, .inr (.inl th))), ((a 10), .inl (cL, 8, .inr (.inl cm))), ((a 11), .inr (4, [.ref (a 5), .ref (a 12)])), ((a 12), .inl (cI, 8, .inl jl)), ((a 13), .inr (1, [.ref (a 5), .ref (a 14), .ref (a 15), .int kf])), ((a 14), .inl (cL, 256, .inr (.inl bz))), ((a 15), .inl (cL, 8, .inr (.inl rw)))]) (ws2 := (wX a cI cL pl cd bs br un ow ki th cm tr tl ch jl bz rw kf)) (jx_runS (As := [.int p1]) (rest := []) ⟨hx, hb, hml, hown, hts⟩ (c_X6_isItem l D a cI cL p1 r2 hc _) (va_cwS 1 hts gX6_held_X6_isItem rfl rfl rfl (by decide +kernel) ⟨Nat.le_of_ble_eq_true rfl, Nat.le_of_ble_eq_true rfl⟩) hK hN hP hD [] rfl (by decide) rfl hl.1 rfl (Nat.le_of_ble_eq_true rfl) dX6_held_16 ⟨Nat.le_of_ble_eq_true rfl, Nat.le_of_ble_eq_true rfl⟩) hP hD hS hA [] [0, 1, 2, 3, 4, 5, 6, 7, 8, 9, 10, 11, 12, 13, 14, 15] [0, 1, 2, 3, 4, 5, 6, 7, 8, 9, 10, 11, 12, 13, 14, 15] rfl rfl (by decide) (by decide) rfl (by decide) (fun H locs hP hD hS => ?_)
    clear hc
    refine lv_if_eq (tgt := 34) hx hb dX6_held_19 (by decide) (fun hq => ?_) (fun hq => ?_)
    · replace hf := jx_pos hq hf
      refine lv_sipush (v := -1002) hx hb dX6_held_34 (by decide) ?_
      have he := jx_eq hf
      subst he
      exact jx_reti hx hb hr hlocks rfl hK hP hD hS dX6_held_37
    · replace hf := jx_neg hq hf
      refine lv_aload_n hx hb dX6_held_22 rfl (lv_at hl 0 rfl) ?_
      refine va_get (D := D) (ci := 5) (v := .ref (a 5)) (C := RX6) (T := TX6) (N := 5) hx hb hts iw_X6_held_X6 hown hK hP 0 rfl rfl 2 (by decide) (hts (.fieldLink RX6 26 "PassedDuties" "parts" "LPassedDuties$Parts;") (by decide +kernel)) (fun _ h9 => h9) rfl dX6_held_23 ?_
      refine lv_iload_n hx hb dX6_held_26 rfl (lv_at hl 1 rfl) ?_
      refine lv_iload_n hx hb dX6_held_27 rfl (lv_at hl 2 rfl) ?_
      obtain ⟨r3, hc, hf⟩ := jx_bs hf
      refine jx_ki (wr := [((a 0), .inr (5, [.ref (a 1), .ref (a 3), .ref (a 5), .ref (a 11), .ref (a 13)])), ((a 1), .inr (2, [.ref (a 2), .int pl])), ((a 2), .inl (cI, 24, .inl cd)), ((a 3), .inr (0, [.ref (a 4), .int bs])), ((a 4), .inl (cL, 8, .inr (.inl br))), ((a 11), .inr (4, [.ref (a 5), .ref (a 12)])), ((a 12), .inl (cI, 8, .inl jl)), ((a 13), .inr (1, [.ref (a 5), .ref (a 14), .ref (a 15), .int kf])), ((a 14), .inl (cL, 256, .inr (.inl bz))), ((a 15), .inl (cL, 8, .inr (.inl rw)))]) (ws2 := (wX a cI cL pl cd bs br un ow ki th cm tr tl ch jl bz rw kf)) (jx_runV (As := [.int p0, .int p1]) (rest := []) ⟨hx, hb, hml, hown, hts⟩ (c_X3_reachHeld l D a cI cL un ow ki th cm tr tl ch p0 p1 r3 hc _) (cwV 2 hts gX6_held_X3_reachHeld rfl rfl rfl (by decide +kernel) ⟨Nat.le_of_ble_eq_true rfl, Nat.le_of_ble_eq_true rfl⟩) hK hN hP hD [5, 6, 7, 8, 9, 10] rfl (by decide) 5 3 rfl rfl rfl hl.1 rfl (Nat.le_of_ble_eq_true rfl) dX6_held_28 ⟨Nat.le_of_ble_eq_true rfl, Nat.le_of_ble_eq_true rfl⟩) hP hD hS hA [5, 6, 7, 8, 9, 10] [0, 1, 2, 3, 4, 11, 12, 13, 14, 15] [0, 1, 2, 3, 4, 10, 11, 12, 13, 14, 15, 5, 6, 7, 8, 9] rfl rfl (by decide) (by decide) rfl (by decide) (fun H locs hP hD hS => ?_)
      clear hc
      refine lv_goto (tgt := 37) hx hb dX6_held_31 (by decide) ?_
      have he := jx_eq hf
      subst he
      exact jx_reti hx hb hr hlocks rfl hK hP hD hS dX6_held_37
  · replace hf := jx_negn hq hf
    refine lv_sipush (v := -1001) hx hb dX6_held_11 (by decide) ?_
    have he := jx_eq hf
    subst he
    exact jx_reti hx hb hr hlocks rfl hK hP hD hS dX6_held_14
theorem iw_X6_kind_X6 : ∀ w ∈ wsX60, w ∈ wsX6_kind := by decide +kernel
set_option maxHeartbeats 4000000 in
set_option maxRecDepth 100000 in
theorem c_X6_kind (l : Launch) (D : va_G) (a : Nat → Nat) (cI cL : ClassId) (pl : Int32) (cd : (Nat → Int32)) (bs : Int32) (br : (Nat → Int64)) (un : (Nat → Int32)) (ow : (Nat → Int64)) (ki : (Nat → Int32)) (th : (Nat → Int64)) (cm : (Nat → Int64)) (tr : Int32) (tl : Int32) (ch : Int32) (jl : (Nat → Int32)) (bz : (Nat → Int64)) (rw : (Nat → Int64)) (kf : Int32) (p0 : Int32) (p1 : Int32) (res : Int32) (hf : pf_X6_kind ki tr p0 p1 = some res) : jMi l yX6_kind wsX6_kind ({ frames := 2, cells := 0, slots := 0, locals := 43 }) D [(cI, .int), (cL, .long)] [.ref (a 0), .int p0, .int p1] (wX a cI cL pl cd bs br un ow ki th cm tr tl ch jl bz rw kf) res (wX a cI cL pl cd bs br un ow ki th cm tr tl ch jl bz rw kf) := by
  intro sz
  refine Met.ofW (cc := cX6_kind) (maxL := 3) (ret := (some .int)) (by decide) rfl ?_
  intro p e s m args below meth c s₁ B hml hv
  obtain ⟨rfl, hsz, hP, hK, hD0, hN⟩ := hv
  have hx := B.exec
  have hb := B.bytes
  have hr := B.returns
  have hts := atoms_spec (ws := wsX6_kind) B.pre
  have hown : s.vm.findClass RX6 = some m.cls := findClass_of_methodNamed B.named
  have hlocks := B.notSynchronized
  subst hsz
  have hD := hD0.self (sz := s.heap.size)
  generalize hAe : va_A (wX a cI cL pl cd bs br un ow ki th cm tr tl ch jl bz rw kf) s.heap.size = A at hD ⊢
  have hA : ∀ q : Nat, s.heap.size ≤ q → A q := fun q h => by rw [← hAe]; exact Or.inr h
  have hS : va_S A s.heap s.heap [] := va_S.rf
  have hl := lv_entry ([.ref (a 0), .int p0, .int p1]) (n := 3) (Nat.le_of_ble_eq_true rfl)
  rw [lg_entry_eq]
  generalize (lg_sl ([.ref (a 0), .int p0, .int p1]) ++ List.replicate (3 - (lg_sl ([.ref (a 0), .int p0, .int p1])).length) Slot.unset).toArray = ls at hl ⊢
  have hl : lv_has ls 3 [(0, .ref (a 0)), (1, .int p0), (2, .int p1)] := hl
  have hf : pf_X6_kind ki tr p0 p1 = some res := hf
  refine lv_aload_n hx hb dX6_kind_0 rfl (lv_at hl 0 rfl) ?_
  refine va_get (D := D) (ci := 5) (v := .ref (a 5)) (C := RX6) (T := TX6) (N := 5) hx hb hts iw_X6_kind_X6 hown hK hP 0 rfl rfl 2 (by decide) (hts (.fieldLink RX6 26 "PassedDuties" "parts" "LPassedDuties$Parts;") (by decide +kernel)) (fun _ h9 => h9) rfl dX6_kind_1 ?_
  refine lv_iload_n hx hb dX6_kind_4 rfl (lv_at hl 1 rfl) ?_
  obtain ⟨r1, hc, hf⟩ := jx_bs hf
  refine jx_ki (wr := [((a 0), .inr (5, [.ref (a 1), .ref (a 3), .ref (a 5), .ref (a 11), .ref (a 13)])), ((a 1), .inr (2, [.ref (a 2), .int pl])), ((a 2), .inl (cI, 24, .inl cd)), ((a 3), .inr (0, [.ref (a 4), .int bs])), ((a 4), .inl (cL, 8, .inr (.inl br))), ((a 11), .inr (4, [.ref (a 5), .ref (a 12)])), ((a 12), .inl (cI, 8, .inl jl)), ((a 13), .inr (1, [.ref (a 5), .ref (a 14), .ref (a 15), .int kf])), ((a 14), .inl (cL, 256, .inr (.inl bz))), ((a 15), .inl (cL, 8, .inr (.inl rw)))]) (ws2 := (wX a cI cL pl cd bs br un ow ki th cm tr tl ch jl bz rw kf)) (jx_runV (As := [.int p0]) (rest := []) ⟨hx, hb, hml, hown, hts⟩ (c_X3_has l D a cI cL un ow ki th cm tr tl ch p0 r1 hc _) (cwV 1 hts gX6_kind_X3_has rfl rfl rfl (by decide +kernel) ⟨Nat.le_of_ble_eq_true rfl, Nat.le_of_ble_eq_true rfl⟩) hK hN hP hD [5, 6, 7, 8, 9, 10] rfl (by decide) 5 3 rfl rfl rfl hl.1 rfl (Nat.le_of_ble_eq_true rfl) dX6_kind_5 ⟨Nat.le_of_ble_eq_true rfl, Nat.le_of_ble_eq_true rfl⟩) hP hD hS hA [5, 6, 7, 8, 9, 10] [0, 1, 2, 3, 4, 11, 12, 13, 14, 15] [0, 1, 2, 3, 4, 10, 11, 12, 13, 14, 15, 5, 6, 7, 8, 9] rfl rfl (by decide) (by decide) rfl (by decide) (fun H locs hP hD hS => ?_)
  clear hc
  refine lv_if_eq (tgt := 34) hx hb dX6_kind_8 (by decide) (fun hq => ?_) (fun hq => ?_)
  · replace hf := jx_pos hq hf
    refine lv_sipush (v := -1001) hx hb dX6_kind_34 (by decide) ?_
    have he := jx_eq hf
    subst he
    exact jx_reti hx hb hr hlocks rfl hK hP hD hS dX6_kind_37
  · replace hf := jx_neg hq hf
    refine lv_aload_n hx hb dX6_kind_11 rfl (lv_at hl 0 rfl) ?_
    refine va_get (D := D) (ci := 5) (v := .ref (a 5)) (C := RX6) (T := TX6) (N := 5) hx hb hts iw_X6_kind_X6 hown hK hP 0 rfl rfl 2 (by decide) (hts (.fieldLink RX6 26 "PassedDuties" "parts" "LPassedDuties$Parts;") (by decide +kernel)) (fun _ h9 => h9) rfl dX6_kind_12 ?_
    refine lv_iload_n hx hb dX6_kind_15 rfl (lv_at hl 2 rfl) ?_
    obtain ⟨r2, hc, hf⟩ := jx_bs hf
    refine jx_ki (wr := [((a 0), .inr (5, [.ref (a 1), .ref (a 3), .ref (a 5), .ref (a 11), .ref (a 13)])), ((a 1), .inr (2, [.ref (a 2), .int pl])), ((a 2), .inl (cI, 24, .inl cd)), ((a 3), .inr (0, [.ref (a 4), .int bs])), ((a 4), .inl (cL, 8, .inr (.inl br))), ((a 11), .inr (4, [.ref (a 5), .ref (a 12)])), ((a 12), .inl (cI, 8, .inl jl)), ((a 13), .inr (1, [.ref (a 5), .ref (a 14), .ref (a 15), .int kf])), ((a 14), .inl (cL, 256, .inr (.inl bz))), ((a 15), .inl (cL, 8, .inr (.inl rw)))]) (ws2 := (wX a cI cL pl cd bs br un ow ki th cm tr tl ch jl bz rw kf)) (jx_runV (As := [.int p1]) (rest := []) ⟨hx, hb, hml, hown, hts⟩ (c_X3_has l D a cI cL un ow ki th cm tr tl ch p1 r2 hc _) (cwV 1 hts gX6_kind_X3_has rfl rfl rfl (by decide +kernel) ⟨Nat.le_of_ble_eq_true rfl, Nat.le_of_ble_eq_true rfl⟩) hK hN hP hD [5, 6, 7, 8, 9, 10] rfl (by decide) 5 3 rfl rfl rfl hl.1 rfl (Nat.le_of_ble_eq_true rfl) dX6_kind_16 ⟨Nat.le_of_ble_eq_true rfl, Nat.le_of_ble_eq_true rfl⟩) hP hD hS hA [5, 6, 7, 8, 9, 10] [0, 1, 2, 3, 4, 11, 12, 13, 14, 15] [0, 1, 2, 3, 4, 10, 11, 12, 13, 14, 15, 5, 6, 7, 8, 9] rfl rfl (by decide) (by decide) rfl (by decide) (fun H locs hP hD hS => ?_)
    clear hc
    refine lv_if_eq (tgt := 34) hx hb dX6_kind_19 (by decide) (fun hq => ?_) (fun hq => ?_)
    · replace hf := jx_pos hq hf
      refine lv_sipush (v := -1001) hx hb dX6_kind_34 (by decide) ?_
      have he := jx_eq hf
      subst he
      exact jx_reti hx hb hr hlocks rfl hK hP hD hS dX6_kind_37
    · replace hf := jx_neg hq hf
      refine lv_aload_n hx hb dX6_kind_22 rfl (lv_at hl 0 rfl) ?_
      refine va_get (D := D) (ci := 5) (v := .ref (a 5)) (C := RX6) (T := TX6) (N := 5) hx hb hts iw_X6_kind_X6 hown hK hP 0 rfl rfl 2 (by decide) (hts (.fieldLink RX6 26 "PassedDuties" "parts" "LPassedDuties$Parts;") (by decide +kernel)) (fun _ h9 => h9) rfl dX6_kind_23 ?_
      refine lv_iload_n hx hb dX6_kind_26 rfl (lv_at hl 1 rfl) ?_
      refine lv_iload_n hx hb dX6_kind_27 rfl (lv_at hl 2 rfl) ?_
      obtain ⟨r3, hc, hf⟩ := jx_bs hf
      refine jx_ki (wr := [((a 0), .inr (5, [.ref (a 1), .ref (a 3), .ref (a 5), .ref (a 11), .ref (a 13)])), ((a 1), .inr (2, [.ref (a 2), .int pl])), ((a 2), .inl (cI, 24, .inl cd)), ((a 3), .inr (0, [.ref (a 4), .int bs])), ((a 4), .inl (cL, 8, .inr (.inl br))), ((a 11), .inr (4, [.ref (a 5), .ref (a 12)])), ((a 12), .inl (cI, 8, .inl jl)), ((a 13), .inr (1, [.ref (a 5), .ref (a 14), .ref (a 15), .int kf])), ((a 14), .inl (cL, 256, .inr (.inl bz))), ((a 15), .inl (cL, 8, .inr (.inl rw)))]) (ws2 := (wX a cI cL pl cd bs br un ow ki th cm tr tl ch jl bz rw kf)) (jx_runV (As := [.int p0, .int p1]) (rest := []) ⟨hx, hb, hml, hown, hts⟩ (c_X3_kindOf l D a cI cL un ow ki th cm tr tl ch p0 p1 r3 hc _) (cwV 2 hts gX6_kind_X3_kindOf rfl rfl rfl (by decide +kernel) ⟨Nat.le_of_ble_eq_true rfl, Nat.le_of_ble_eq_true rfl⟩) hK hN hP hD [5, 6, 7, 8, 9, 10] rfl (by decide) 5 3 rfl rfl rfl hl.1 rfl (Nat.le_of_ble_eq_true rfl) dX6_kind_28 ⟨Nat.le_of_ble_eq_true rfl, Nat.le_of_ble_eq_true rfl⟩) hP hD hS hA [5, 6, 7, 8, 9, 10] [0, 1, 2, 3, 4, 11, 12, 13, 14, 15] [0, 1, 2, 3, 4, 10, 11, 12, 13, 14, 15, 5, 6, 7, 8, 9] rfl rfl (by decide) (by decide) rfl (by decide) (fun H locs hP hD hS => ?_)
      clear hc
      refine lv_goto (tgt := 37) hx hb dX6_kind_31 (by decide) ?_
      have he := jx_eq hf
      subst he
      exact jx_reti hx hb hr hlocks rfl hK hP hD hS dX6_kind_37
theorem iw_X6_fault_X6 : ∀ w ∈ wsX60, w ∈ wsX6_fault := by decide +kernel
set_option maxHeartbeats 4000000 in
set_option maxRecDepth 100000 in
theorem c_X6_fault (l : Launch) (D : va_G) (a : Nat → Nat) (cI cL : ClassId) (pl : Int32) (cd : (Nat → Int32)) (bs : Int32) (br : (Nat → Int64)) (un : (Nat → Int32)) (ow : (Nat → Int64)) (ki : (Nat → Int32)) (th : (Nat → Int64)) (cm : (Nat → Int64)) (tr : Int32) (tl : Int32) (ch : Int32) (jl : (Nat → Int32)) (bz : (Nat → Int64)) (rw : (Nat → Int64)) (kf : Int32) (res : Int32) (hf : pf_X6_fault pl cd = some res) : jMi l yX6_fault wsX6_fault ({ frames := 2, cells := 0, slots := 0, locals := 47 }) D [(cI, .int), (cL, .long)] [.ref (a 0)] (wX a cI cL pl cd bs br un ow ki th cm tr tl ch jl bz rw kf) res (wX a cI cL pl cd bs br un ow ki th cm tr tl ch jl bz rw kf) := by
  intro sz
  refine Met.ofW (cc := cX6_fault) (maxL := 1) (ret := (some .int)) (by decide) rfl ?_
  intro p e s m args below meth c s₁ B hml hv
  obtain ⟨rfl, hsz, hP, hK, hD0, hN⟩ := hv
  have hx := B.exec
  have hb := B.bytes
  have hr := B.returns
  have hts := atoms_spec (ws := wsX6_fault) B.pre
  have hown : s.vm.findClass RX6 = some m.cls := findClass_of_methodNamed B.named
  have hlocks := B.notSynchronized
  subst hsz
  have hD := hD0.self (sz := s.heap.size)
  generalize hAe : va_A (wX a cI cL pl cd bs br un ow ki th cm tr tl ch jl bz rw kf) s.heap.size = A at hD ⊢
  have hA : ∀ q : Nat, s.heap.size ≤ q → A q := fun q h => by rw [← hAe]; exact Or.inr h
  have hS : va_S A s.heap s.heap [] := va_S.rf
  have hl := lv_entry ([.ref (a 0)]) (n := 1) (Nat.le_of_ble_eq_true rfl)
  rw [lg_entry_eq]
  generalize (lg_sl ([.ref (a 0)]) ++ List.replicate (1 - (lg_sl ([.ref (a 0)])).length) Slot.unset).toArray = ls at hl ⊢
  have hl : lv_has ls 1 [(0, .ref (a 0))] := hl
  have hf : pf_X6_fault pl cd = some res := hf
  refine lv_aload_n hx hb dX6_fault_0 rfl (lv_at hl 0 rfl) ?_
  refine va_get (D := D) (ci := 5) (v := .ref (a 1)) (C := RX6) (T := TX6) (N := 5) hx hb hts iw_X6_fault_X6 hown hK hP 0 rfl rfl 0 (by decide) (hts (.fieldLink RX6 12 "PassedDuties" "page" "LPassedDuties$Page;") (by decide +kernel)) (fun _ h9 => h9) rfl dX6_fault_1 ?_
  obtain ⟨r1, hc, hf⟩ := jx_bs hf
  refine jx_ki (wr := [((a 0), .inr (5, [.ref (a 1), .ref (a 3), .ref (a 5), .ref (a 11), .ref (a 13)])), ((a 3), .inr (0, [.ref (a 4), .int bs])), ((a 4), .inl (cL, 8, .inr (.inl br))), ((a 5), .inr (3, [.ref (a 6), .ref (a 7), .ref (a 8), .ref (a 9), .ref (a 10), .int tr, .int tl, .int ch])), ((a 6), .inl (cI, 8, .inl un)), ((a 7), .inl (cL, 8, .inr (.inl ow))), ((a 8), .inl (cI, 64, .inl ki)), ((a 9), .inl (cL, 64, .inr (.inl th))), ((a 10), .inl (cL, 8, .inr (.inl cm))), ((a 11), .inr (4, [.ref (a 5), .ref (a 12)])), ((a 12), .inl (cI, 8, .inl jl)), ((a 13), .inr (1, [.ref (a 5), .ref (a 14), .ref (a 15), .int kf])), ((a 14), .inl (cL, 256, .inr (.inl bz))), ((a 15), .inl (cL, 8, .inr (.inl rw)))]) (ws2 := (wX a cI cL pl cd bs br un ow ki th cm tr tl ch jl bz rw kf)) (jx_runV (As := []) (rest := []) ⟨hx, hb, hml, hown, hts⟩ (c_X2_firstFault l D a cI cL pl cd r1 hc _) (cwV 0 hts gX6_fault_X2_firstFault rfl rfl rfl (by decide +kernel) ⟨Nat.le_of_ble_eq_true rfl, Nat.le_of_ble_eq_true rfl⟩) hK hN hP hD [1, 2] rfl (by decide) 1 2 rfl rfl rfl hl.1 rfl (Nat.le_of_ble_eq_true rfl) dX6_fault_4 ⟨Nat.le_of_ble_eq_true rfl, Nat.le_of_ble_eq_true rfl⟩) hP hD hS hA [1, 2] [0, 3, 4, 5, 6, 7, 8, 9, 10, 11, 12, 13, 14, 15] [0, 14, 15, 1, 2, 3, 4, 5, 6, 7, 8, 9, 10, 11, 12, 13] rfl rfl (by decide) (by decide) rfl (by decide) (fun H locs hP hD hS => ?_)
  clear hc
  have he := jx_eq hf
  subst he
  exact jx_reti hx hb hr hlocks rfl hK hP hD hS dX6_fault_7
theorem iw_X6_letter_X2 : ∀ w ∈ wsX20, w ∈ wsX6_letter := by decide +kernel
theorem iw_X6_letter_X6 : ∀ w ∈ wsX60, w ∈ wsX6_letter := by decide +kernel
set_option maxHeartbeats 4000000 in
set_option maxRecDepth 100000 in
theorem c_X6_letter (l : Launch) (D : va_G) (a : Nat → Nat) (cI cL : ClassId) (pl : Int32) (cd : (Nat → Int32)) (bs : Int32) (br : (Nat → Int64)) (un : (Nat → Int32)) (ow : (Nat → Int64)) (ki : (Nat → Int32)) (th : (Nat → Int64)) (cm : (Nat → Int64)) (tr : Int32) (tl : Int32) (ch : Int32) (jl : (Nat → Int32)) (bz : (Nat → Int64)) (rw : (Nat → Int64)) (kf : Int32) (p0 : Int32) (res : (Int32 × Int32 × (Nat → Int32))) (hf : pf_X6_letter pl cd p0 = some res) : jMi l yX6_letter wsX6_letter ({ frames := 1, cells := 0, slots := 0, locals := 21 }) D [(cI, .int), (cL, .long)] [.ref (a 0), .int p0] (wX a cI cL pl cd bs br un ow ki th cm tr tl ch jl bz rw kf) res.1 (wX a cI cL res.2.1 res.2.2 bs br un ow ki th cm tr tl ch jl bz rw kf) := by
  intro sz
  refine Met.ofW (cc := cX6_letter) (maxL := 2) (ret := (some .int)) (by decide) rfl ?_
  intro p e s m args below meth c s₁ B hml hv
  obtain ⟨rfl, hsz, hP, hK, hD0, hN⟩ := hv
  have hx := B.exec
  have hb := B.bytes
  have hr := B.returns
  have hts := atoms_spec (ws := wsX6_letter) B.pre
  have hown : s.vm.findClass RX6 = some m.cls := findClass_of_methodNamed B.named
  have hlocks := B.notSynchronized
  subst hsz
  have hD := hD0.self (sz := s.heap.size)
  generalize hAe : va_A (wX a cI cL pl cd bs br un ow ki th cm tr tl ch jl bz rw kf) s.heap.size = A at hD ⊢
  have hA : ∀ q : Nat, s.heap.size ≤ q → A q := fun q h => by rw [← hAe]; exact Or.inr h
  have hS : va_S A s.heap s.heap [] := va_S.rf
  have hl := lv_entry ([.ref (a 0), .int p0]) (n := 2) (Nat.le_of_ble_eq_true rfl)
  rw [lg_entry_eq]
  generalize (lg_sl ([.ref (a 0), .int p0]) ++ List.replicate (2 - (lg_sl ([.ref (a 0), .int p0])).length) Slot.unset).toArray = ls at hl ⊢
  have hl : lv_has ls 2 [(0, .ref (a 0)), (1, .int p0)] := hl
  have hf : pf_X6_letter pl cd p0 = some res := hf
  refine lv_iload_n hx hb dX6_letter_0 rfl (lv_at hl 1 rfl) ?_
  refine lv_bipush (v := 32) hx hb dX6_letter_1 (by decide) ?_
  refine lv_icmp_lt (tgt := 12) hx hb dX6_letter_3 (by decide) (fun hq => ?_) (fun hq => ?_)
  · replace hf := jx_pos hq hf
    refine lv_sipush (v := -1002) hx hb dX6_letter_12 (by decide) ?_
    have he := jx_eq hf
    subst he
    exact jx_reti hx hb hr hlocks rfl hK hP hD hS dX6_letter_15
  · replace hf := jx_neg hq hf
    refine lv_iload_n hx hb dX6_letter_6 rfl (lv_at hl 1 rfl) ?_
    refine lv_bipush (v := 126) hx hb dX6_letter_7 (by decide) ?_
    refine lv_icmp_le (tgt := 16) hx hb dX6_letter_9 (by decide) (fun hq => ?_) (fun hq => ?_)
    · replace hf := jx_pos hq hf
      refine lv_aload_n hx hb dX6_letter_16 rfl (lv_at hl 0 rfl) ?_
      refine va_get (D := D) (ci := 5) (v := .ref (a 1)) (C := RX6) (T := TX6) (N := 5) hx hb hts iw_X6_letter_X6 hown hK hP 0 rfl rfl 0 (by decide) (hts (.fieldLink RX6 12 "PassedDuties" "page" "LPassedDuties$Page;") (by decide +kernel)) (fun _ h9 => h9) rfl dX6_letter_17 ?_
      refine va_getN (D := D) (ci := 2) (v := .int pl) (C := RX2) (T := TX2) (N := 2) hx hb hts iw_X6_letter_X2 hown hK hP 1 rfl rfl 1 (by decide) (va_Nw.use rfl (hN (.fieldLinkNest "PassedDuties" 46 "PassedDuties$Page" "length" "I" "PassedDuties") (by decide +kernel))) (fun _ h9 => h9) rfl dX6_letter_20 ?_
      refine lv_bipush (v := 24) hx hb dX6_letter_23 (by decide) ?_
      refine lv_icmp_ge (tgt := 39) hx hb dX6_letter_25 (by decide) (fun hq => ?_) (fun hq => ?_)
      · replace hf := jx_pos hq hf
        refine lv_sipush (v := -1004) hx hb dX6_letter_39 (by decide) ?_
        have he := jx_eq hf
        subst he
        exact jx_reti hx hb hr hlocks rfl hK hP hD hS dX6_letter_42
      · replace hf := jx_neg hq hf
        refine lv_aload_n hx hb dX6_letter_28 rfl (lv_at hl 0 rfl) ?_
        refine va_get (D := D) (ci := 5) (v := .ref (a 1)) (C := RX6) (T := TX6) (N := 5) hx hb hts iw_X6_letter_X6 hown hK hP 0 rfl rfl 0 (by decide) (hts (.fieldLink RX6 12 "PassedDuties" "page" "LPassedDuties$Page;") (by decide +kernel)) (fun _ h9 => h9) rfl dX6_letter_29 ?_
        refine lv_iload_n hx hb dX6_letter_32 rfl (lv_at hl 1 rfl) ?_
        obtain ⟨r1, hc, hf⟩ := jx_bs hf
        refine jx_ki (wr := [((a 0), .inr (5, [.ref (a 1), .ref (a 3), .ref (a 5), .ref (a 11), .ref (a 13)])), ((a 3), .inr (0, [.ref (a 4), .int bs])), ((a 4), .inl (cL, 8, .inr (.inl br))), ((a 5), .inr (3, [.ref (a 6), .ref (a 7), .ref (a 8), .ref (a 9), .ref (a 10), .int tr, .int tl, .int ch])), ((a 6), .inl (cI, 8, .inl un)), ((a 7), .inl (cL, 8, .inr (.inl ow))), ((a 8), .inl (cI, 64, .inl ki)), ((a 9), .inl (cL, 64, .inr (.inl th))), ((a 10), .inl (cL, 8, .inr (.inl cm))), ((a 11), .inr (4, [.ref (a 5), .ref (a 12)])), ((a 12), .inl (cI, 8, .inl jl)), ((a 13), .inr (1, [.ref (a 5), .ref (a 14), .ref (a 15), .int kf])), ((a 14), .inl (cL, 256, .inr (.inl bz))), ((a 15), .inl (cL, 8, .inr (.inl rw)))]) (ws2 := (wX a cI cL r1.2.1 r1.2.2 bs br un ow ki th cm tr tl ch jl bz rw kf)) (jx_runV (As := [.int p0]) (rest := []) ⟨hx, hb, hml, hown, hts⟩ (c_X2_write l D a cI cL pl cd p0 r1 hc _) (cwV 1 hts gX6_letter_X2_write rfl rfl rfl (by decide +kernel) ⟨Nat.le_of_ble_eq_true rfl, Nat.le_of_ble_eq_true rfl⟩) hK hN hP hD [1, 2] rfl (by decide) 1 2 rfl rfl rfl hl.1 rfl (Nat.le_of_ble_eq_true rfl) dX6_letter_33 ⟨Nat.le_of_ble_eq_true rfl, Nat.le_of_ble_eq_true rfl⟩) hP hD hS hA [1, 2] [0, 3, 4, 5, 6, 7, 8, 9, 10, 11, 12, 13, 14, 15] [0, 14, 15, 1, 2, 3, 4, 5, 6, 7, 8, 9, 10, 11, 12, 13] rfl rfl (by decide) (by decide) rfl (by decide) (fun H locs hP hD hS => ?_)
        clear hc
        refine lv_goto (tgt := 42) hx hb dX6_letter_36 (by decide) ?_
        have he := jx_eq hf
        subst he
        exact jx_reti hx hb hr hlocks rfl hK hP hD hS dX6_letter_42
    · replace hf := jx_neg hq hf
      refine lv_sipush (v := -1002) hx hb dX6_letter_12 (by decide) ?_
      have he := jx_eq hf
      subst he
      exact jx_reti hx hb hr hlocks rfl hK hP hD hS dX6_letter_15
