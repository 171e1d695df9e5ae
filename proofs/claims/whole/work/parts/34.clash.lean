set_option maxHeartbeats 4000000 in
set_option maxRecDepth 100000 in
theorem c_X1_meetings (l : Launch) (D : va_G) (a : Nat → Nat) (b : Nat) (cI cL : ClassId) (ar : (Nat → Int64)) (res : Int64) (hf : pf_X1_meetings ar = some res) : jMl l yX1_meetings wsX1_meetings ({ frames := 2, cells := 0, slots := 0, locals := 43 }) D [(cI, .int), (cL, .long)] [.ref b] (wAr a b cI cL ar) res (wAr a b cI cL ar) := by
  intro sz
  refine Met.ofW (cc := cX1_meetings) (maxL := 4) (ret := (some .long)) (by decide) rfl ?_
  intro p e s m args below meth c s₁ B hml hv
  obtain ⟨rfl, hsz, hP, hK, hD0, hN⟩ := hv
  have hx := B.exec
  have hb := B.bytes
  have hr := B.returns
  have hts := atoms_spec (ws := wsX1_meetings) B.pre
  have hown : s.vm.findClass RX1 = some m.cls := findClass_of_methodNamed B.named
  have hlocks := B.notSynchronized
  subst hsz
  have hD := hD0.self (sz := s.heap.size)
  generalize hAe : va_A (wAr a b cI cL ar) s.heap.size = A at hD ⊢
  have hA : ∀ q : Nat, s.heap.size ≤ q → A q := fun q h => by rw [← hAe]; exact Or.inr h
  have hS : va_S A s.heap s.heap [] := va_S.rf
  have hl := lv_entry ([.ref b]) (n := 4) (Nat.le_of_ble_eq_true rfl)
  rw [lg_entry_eq]
  generalize (lg_sl ([.ref b]) ++ List.replicate (4 - (lg_sl ([.ref b])).length) Slot.unset).toArray = ls at hl ⊢
  have hl : lv_has ls 4 [(0, .ref b)] := hl
  have hf : pf_X1_meetings ar = some res := hf
  refine lv_lconst (v := 0) hx hb dX1_meetings_0 (by decide) ?_
  refine lv_lstore_n (lv' := [(1, .long (0 : Int64)), (0, .ref b)]) hx hb dX1_meetings_1 rfl hl (by decide) rfl (fun ls hl => ?_)
  refine lv_iconst (v := 0) hx hb dX1_meetings_2 (by decide) ?_
  refine lv_istore_n (lv' := [(3, .int (0 : Int32)), (1, .long (0 : Int64)), (0, .ref b)]) hx hb dX1_meetings_3 rfl hl (by decide) rfl (fun ls hl => ?_)
  obtain ⟨k2, hf, hkk2⟩ := jx_bs hf
  have hXk2 : ∀ (H : Heap) (locs : List Loc) (ls : Array Slot), va_P D vwCl (wAr a b cI cL ar) H → va_D A (wAr a b cI cL ar) → va_S A s.heap H locs → lv_has ls 4 [(1, .long k2)] → jx_Wl p l e wsX1_meetings ({ frames := 2, cells := 0, slots := 0, locals := 43 }) s m [.ref b] below meth c D [(cI, .int), (cL, .long)] res (wAr a b cI cL ar) A H locs (F0 m 31 ls []) := by
    clear hf hP hD hS hl
    intro H locs ls hP hD hS hl
    have hf := hkk2
    refine lv_lload_n hx hb dX1_meetings_31 rfl (lv_at hl 0 rfl) ?_
    have he := jx_eq hf
    subst he
    exact jx_retl hx hb hr hlocks rfl hK hP hD hS dX1_meetings_32
  have hLk2 : ∀ (n : Nat) (s1 : (Int64 × Int32)) (H : Heap) (locs : List Loc) (ls : Array Slot), jx_iter (pf_X1_meetings_s1 ar) n s1 = some k2 → va_P D vwCl (wAr a b cI cL ar) H → va_D A (wAr a b cI cL ar) → va_S A s.heap H locs → lv_has ls 4 [(0, .ref b), (1, .long s1.1), (3, .int s1.2)] → jx_Wl p l e wsX1_meetings ({ frames := 2, cells := 0, slots := 0, locals := 43 }) s m [.ref b] below meth c D [(cI, .int), (cL, .long)] res (wAr a b cI cL ar) A H locs (F0 m 4 ls []) := by
    clear hf hP hD hS hl
    intro n
    induction n with
    | zero => intro s1 _ _ _ hf; cases hf
    | succ n ihk2 =>
      intro s1 H locs ls hf hP hD hS hl
      obtain ⟨q3, hf, hgk2⟩ := jx_bs hf
      refine lv_iload_n hx hb dX1_meetings_4 rfl (lv_at hl 2 rfl) ?_
      refine lv_bipush (v := 8) hx hb dX1_meetings_5 (by decide) ?_
      refine lv_icmp_ge (tgt := 31) hx hb dX1_meetings_7 (by decide) (fun hq => ?_) (fun hq => ?_)
      · replace hf := jx_pos hq hf
        have he := jx_eq hf
        subst he
        have he : _ = k2 := jx_eq hgk2
        subst he
        exact hXk2 _ _ _ hP hD hS (lv_sub hl [1] rfl)
      · replace hf := jx_neg hq hf
        refine lv_lload_n hx hb dX1_meetings_10 rfl (lv_at hl 1 rfl) ?_
        refine lv_aload_n hx hb dX1_meetings_11 rfl (lv_at hl 0 rfl) ?_
        refine lv_iload_n hx hb dX1_meetings_12 rfl (lv_at hl 2 rfl) ?_
        obtain ⟨hi, hf⟩ := jx_gs hf
        refine va_lald hx hb hK hP 0 1 rfl rfl (jx_ip hi) dX1_meetings_13 ?_
        clear hi
        obtain ⟨r4, hc, hf⟩ := jx_bs hf
        refine jx_ki (wr := [(b, .inl (cL, 8, .inr (.inl ar)))]) (ws2 := (wAr a b cI cL ar)) (jx_runS (As := [.long (ar (s1.2).toNatClampNeg)]) (rest := [.long s1.1]) ⟨hx, hb, hml, hown, hts⟩ (c_X4_meeting l D a cI cL (ar (s1.2).toNatClampNeg) r4 hc _) (va_cwS 1 hts gX1_meetings_X4_meeting rfl rfl rfl (by decide +kernel) ⟨Nat.le_of_ble_eq_true rfl, Nat.le_of_ble_eq_true rfl⟩) hK hN hP hD [] rfl (by decide) rfl hl.1 rfl (Nat.le_of_ble_eq_true rfl) dX1_meetings_14 ⟨Nat.le_of_ble_eq_true rfl, Nat.le_of_ble_eq_true rfl⟩) hP hD hS hA [] [0] [0] rfl rfl (by decide) (by decide) rfl (by decide) (fun H locs hP hD hS => ?_)
        clear hc
        refine lv_i2l (v := (r4).toInt64) hx hb dX1_meetings_17 rfl ?_
        refine lv_iload_n hx hb dX1_meetings_18 rfl (lv_at hl 2 rfl) ?_
        refine lv_bipush (v := 6) hx hb dX1_meetings_19 (by decide) ?_
        refine lv_imul hx hb dX1_meetings_21 ?_
        refine lv_lshl (v := ((r4).toInt64 <<< (((s1.2 * (6 : Int32))).toInt64 &&& 63))) hx hb dX1_meetings_22 rfl ?_
        refine lv_lor hx hb dX1_meetings_23 ?_
        refine lv_lstore_n (lv' := [(1, .long (s1.1 ||| ((r4).toInt64 <<< (((s1.2 * (6 : Int32))).toInt64 &&& 63)))), (0, .ref b), (3, .int s1.2)]) hx hb dX1_meetings_24 rfl hl (by decide) rfl (fun ls hl => ?_)
        refine lv_iinc (v := (s1.2 + (1 : Int32))) (lv' := [(3, .int (s1.2 + (1 : Int32))), (1, .long (s1.1 ||| ((r4).toInt64 <<< (((s1.2 * (6 : Int32))).toInt64 &&& 63)))), (0, .ref b)]) hx hb dX1_meetings_25 hl (k := 2) rfl rfl (by decide) rfl (fun ls hl => ?_)
        refine lv_goto (tgt := 4) hx hb dX1_meetings_28 (by decide) ?_
        have he := jx_eq hf
        subst he
        exact ihk2 ((s1.1 ||| ((r4).toInt64 <<< (((s1.2 * (6 : Int32))).toInt64 &&& 63))), (s1.2 + (1 : Int32))) _ _ _ hgk2 hP hD hS (lv_sub hl [2, 1, 0] rfl)
  exact hLk2 jx_F ((0 : Int64), (0 : Int32)) _ _ _ hf hP hD hS (lv_sub hl [2, 1, 0] rfl)
theorem iw_X1_now_X1 : ∀ w ∈ wsX10, w ∈ wsX1_now := by decide +kernel
theorem iw_X1_now_X3 : ∀ w ∈ wsX30, w ∈ wsX1_now := by decide +kernel
set_option maxHeartbeats 4000000 in
set_option maxRecDepth 100000 in
theorem c_X1_now (l : Launch) (D : va_G) (a : Nat → Nat) (cI cL : ClassId) (un : (Nat → Int32)) (ow : (Nat → Int64)) (ki : (Nat → Int32)) (th : (Nat → Int64)) (cm : (Nat → Int64)) (tr : Int32) (tl : Int32) (ch : Int32) (bz : (Nat → Int64)) (rw : (Nat → Int64)) (kf : Int32) (res : Int64) (hf : pf_X1_now cm = some res) : jMl l yX1_now wsX1_now ({ frames := 3, cells := 0, slots := 0, locals := 66 }) D [(cI, .int), (cL, .long)] [.ref (a 13)] (wCl a cI cL un ow ki th cm tr tl ch bz rw kf) res (wCl a cI cL un ow ki th cm tr tl ch bz rw kf) := by
  intro sz
  refine Met.ofW (cc := cX1_now) (maxL := 1) (ret := (some .long)) (by decide) rfl ?_
  intro p e s m args below meth c s₁ B hml hv
  obtain ⟨rfl, hsz, hP, hK, hD0, hN⟩ := hv
  have hx := B.exec
  have hb := B.bytes
  have hr := B.returns
  have hts := atoms_spec (ws := wsX1_now) B.pre
  have hown : s.vm.findClass RX1 = some m.cls := findClass_of_methodNamed B.named
  have hlocks := B.notSynchronized
  subst hsz
  have hD := hD0.self (sz := s.heap.size)
  generalize hAe : va_A (wCl a cI cL un ow ki th cm tr tl ch bz rw kf) s.heap.size = A at hD ⊢
  have hA : ∀ q : Nat, s.heap.size ≤ q → A q := fun q h => by rw [← hAe]; exact Or.inr h
  have hS : va_S A s.heap s.heap [] := va_S.rf
  have hl := lv_entry ([.ref (a 13)]) (n := 1) (Nat.le_of_ble_eq_true rfl)
  rw [lg_entry_eq]
  generalize (lg_sl ([.ref (a 13)]) ++ List.replicate (1 - (lg_sl ([.ref (a 13)])).length) Slot.unset).toArray = ls at hl ⊢
  have hl : lv_has ls 1 [(0, .ref (a 13))] := hl
  have hf : pf_X1_now cm = some res := hf
  refine lv_aload_n hx hb dX1_now_0 rfl (lv_at hl 0 rfl) ?_
  refine va_get (D := D) (ci := 1) (v := .ref (a 5)) (C := RX1) (T := TX1) (N := 4) hx hb hts iw_X1_now_X1 hown hK hP 0 rfl rfl 0 (by decide) (hts (.fieldLink RX1 22 "PassedDuties$Clashes" "parts" "LPassedDuties$Parts;") (by decide +kernel)) (fun _ h9 => h9) rfl dX1_now_1 ?_
  refine va_getN (D := D) (ci := 3) (v := .ref (a 10)) (C := RX3) (T := TX3) (N := 8) hx hb hts iw_X1_now_X3 hown hK hP 3 rfl rfl 4 (by decide) (va_Nw.use rfl (hN (.fieldLinkNest "PassedDuties$Clashes" 26 "PassedDuties$Parts" "come" "[J" "PassedDuties") (by decide +kernel))) (fun _ h9 => h9) rfl dX1_now_4 ?_
  obtain ⟨r1, hc, hf⟩ := jx_bs hf
  refine jx_kl (wr := [((a 13), .inr (1, [.ref (a 5), .ref (a 14), .ref (a 15), .int kf])), ((a 14), .inl (cL, 256, .inr (.inl bz))), ((a 15), .inl (cL, 8, .inr (.inl rw))), ((a 5), .inr (3, [.ref (a 6), .ref (a 7), .ref (a 8), .ref (a 9), .ref (a 10), .int tr, .int tl, .int ch])), ((a 6), .inl (cI, 8, .inl un)), ((a 7), .inl (cL, 8, .inr (.inl ow))), ((a 8), .inl (cI, 64, .inl ki)), ((a 9), .inl (cL, 64, .inr (.inl th)))]) (ws2 := (wCl a cI cL un ow ki th cm tr tl ch bz rw kf)) (jx_runS (As := [.ref (a 10)]) (rest := []) ⟨hx, hb, hml, hown, hts⟩ (c_X1_meetings l D a (a 10) cI cL cm r1 hc _) (va_cwS 1 hts gX1_now_X1_meetings rfl rfl rfl (by decide +kernel) ⟨Nat.le_of_ble_eq_true rfl, Nat.le_of_ble_eq_true rfl⟩) hK hN hP hD [8] rfl (by decide) rfl hl.1 rfl (Nat.le_of_ble_eq_true rfl) dX1_now_7 ⟨Nat.le_of_ble_eq_true rfl, Nat.le_of_ble_eq_true rfl⟩) hP hD hS hA [8] [0, 1, 2, 3, 4, 5, 6, 7] [0, 1, 2, 3, 4, 5, 6, 7, 8] rfl rfl (by decide) (by decide) rfl (by decide) (fun H locs hP hD hS => ?_)
  clear hc
  have he := jx_eq hf
  subst he
  exact jx_retl hx hb hr hlocks rfl hK hP hD hS dX1_now_10
set_option maxHeartbeats 4000000 in
set_option maxRecDepth 100000 in
theorem c_X1_at (l : Launch) (D : va_G) (a : Nat → Nat) (cI cL : ClassId) (un : (Nat → Int32)) (ow : (Nat → Int64)) (ki : (Nat → Int32)) (th : (Nat → Int64)) (cm : (Nat → Int64)) (tr : Int32) (tl : Int32) (ch : Int32) (bz : (Nat → Int64)) (rw : (Nat → Int64)) (kf : Int32) (p0 : Int32) (res : Int32) (hf : pf_X1_at cm p0 = some res) : jMi l yX1_at wsX1_at ({ frames := 4, cells := 0, slots := 0, locals := 86 }) D [(cI, .int), (cL, .long)] [.ref (a 13), .int p0] (wCl a cI cL un ow ki th cm tr tl ch bz rw kf) res (wCl a cI cL un ow ki th cm tr tl ch bz rw kf) := by
  intro sz
  refine Met.ofW (cc := cX1_at) (maxL := 6) (ret := (some .int)) (by decide) rfl ?_
  intro p e s m args below meth c s₁ B hml hv
  obtain ⟨rfl, hsz, hP, hK, hD0, hN⟩ := hv
  have hx := B.exec
  have hb := B.bytes
  have hr := B.returns
  have hts := atoms_spec (ws := wsX1_at) B.pre
  have hown : s.vm.findClass RX1 = some m.cls := findClass_of_methodNamed B.named
  have hlocks := B.notSynchronized
  subst hsz
  have hD := hD0.self (sz := s.heap.size)
  generalize hAe : va_A (wCl a cI cL un ow ki th cm tr tl ch bz rw kf) s.heap.size = A at hD ⊢
  have hA : ∀ q : Nat, s.heap.size ≤ q → A q := fun q h => by rw [← hAe]; exact Or.inr h
  have hS : va_S A s.heap s.heap [] := va_S.rf
  have hl := lv_entry ([.ref (a 13), .int p0]) (n := 6) (Nat.le_of_ble_eq_true rfl)
  rw [lg_entry_eq]
  generalize (lg_sl ([.ref (a 13), .int p0]) ++ List.replicate (6 - (lg_sl ([.ref (a 13), .int p0])).length) Slot.unset).toArray = ls at hl ⊢
  have hl : lv_has ls 6 [(0, .ref (a 13)), (1, .int p0)] := hl
  have hf : pf_X1_at cm p0 = some res := hf
  refine lv_aload_n hx hb dX1_at_0 rfl (lv_at hl 0 rfl) ?_
  obtain ⟨r1, hc, hf⟩ := jx_bs hf
  refine jx_kl (wr := []) (ws2 := (wCl a cI cL un ow ki th cm tr tl ch bz rw kf)) (jx_runV (As := []) (rest := []) ⟨hx, hb, hml, hown, hts⟩ (c_X1_now l D a cI cL un ow ki th cm tr tl ch bz rw kf r1 hc _) (cwV 0 hts gX1_at_X1_now rfl rfl rfl (by decide +kernel) ⟨Nat.le_of_ble_eq_true rfl, Nat.le_of_ble_eq_true rfl⟩) hK hN hP hD [0, 1, 2, 3, 4, 5, 6, 7, 8] rfl (by decide) 0 1 rfl rfl rfl hl.1 rfl (Nat.le_of_ble_eq_true rfl) dX1_at_1 ⟨Nat.le_of_ble_eq_true rfl, Nat.le_of_ble_eq_true rfl⟩) hP hD hS hA [0, 1, 2, 3, 4, 5, 6, 7, 8] [] [0, 1, 2, 3, 4, 5, 6, 7, 8] rfl rfl (by decide) (by decide) rfl (by decide) (fun H locs hP hD hS => ?_)
  clear hc
  refine lv_lstore_n (lv' := [(2, .long r1), (0, .ref (a 13)), (1, .int p0)]) hx hb dX1_at_4 rfl hl (by decide) rfl (fun ls hl => ?_)
  refine lv_iconst (v := 0) hx hb dX1_at_5 (by decide) ?_
  refine lv_istore (lv' := [(4, .int (0 : Int32)), (2, .long r1), (0, .ref (a 13)), (1, .int p0)]) hx hb dX1_at_6 hl (by decide) rfl (fun ls hl => ?_)
  refine lv_iconst (v := 0) hx hb dX1_at_8 (by decide) ?_
  refine lv_istore (lv' := [(5, .int (0 : Int32)), (4, .int (0 : Int32)), (2, .long r1), (0, .ref (a 13)), (1, .int p0)]) hx hb dX1_at_9 hl (by decide) rfl (fun ls hl => ?_)
  obtain ⟨k3, hf, hkk3⟩ := jx_bs hf
  have hXk3 : ∀ (xk3 : Unit), k3 = Sum.inl xk3 → ∀ (H : Heap) (locs : List Loc) (ls : Array Slot), va_P D vwCl (wCl a cI cL un ow ki th cm tr tl ch bz rw kf) H → va_D A (wCl a cI cL un ow ki th cm tr tl ch bz rw kf) → va_S A s.heap H locs → lv_has ls 6 [] → jx_Wi p l e wsX1_at ({ frames := 4, cells := 0, slots := 0, locals := 86 }) s m [.ref (a 13), .int p0] below meth c D [(cI, .int), (cL, .long)] res (wCl a cI cL un ow ki th cm tr tl ch bz rw kf) A H locs (F0 m 45 ls []) := by
    clear hf hP hD hS hl
    intro xk3 he H locs ls hP hD hS hl
    subst he
    have hf := hkk3
    refine lv_iconst (v := -1) hx hb dX1_at_45 (by decide) ?_
    have he := jx_eq hf
    subst he
    exact jx_reti hx hb hr hlocks rfl hK hP hD hS dX1_at_46
  have hLk3 : ∀ (n : Nat) (s2 : (Int32 × Int32)) (H : Heap) (locs : List Loc) (ls : Array Slot), jx_iter (pf_X1_at_s1 p0 r1) n s2 = some k3 → va_P D vwCl (wCl a cI cL un ow ki th cm tr tl ch bz rw kf) H → va_D A (wCl a cI cL un ow ki th cm tr tl ch bz rw kf) → va_S A s.heap H locs → lv_has ls 6 [(1, .int p0), (2, .long r1), (4, .int s2.1), (5, .int s2.2)] → jx_Wi p l e wsX1_at ({ frames := 4, cells := 0, slots := 0, locals := 86 }) s m [.ref (a 13), .int p0] below meth c D [(cI, .int), (cL, .long)] res (wCl a cI cL un ow ki th cm tr tl ch bz rw kf) A H locs (F0 m 11 ls []) := by
    clear hf hP hD hS hl
    intro n
    induction n with
    | zero => intro s2 _ _ _ hf; cases hf
    | succ n ihk3 =>
      intro s2 H locs ls hf hP hD hS hl
      obtain ⟨q4, hf, hgk3⟩ := jx_bs hf
      refine lv_iload hx hb dX1_at_11 (lv_at hl 3 rfl) ?_
      refine lv_bipush (v := 48) hx hb dX1_at_13 (by decide) ?_
      refine lv_icmp_ge (tgt := 45) hx hb dX1_at_15 (by decide) (fun hq => ?_) (fun hq => ?_)
      · replace hf := jx_pos hq hf
        have he := jx_eq hf
        subst he
        have he : Sum.inl _ = k3 := jx_eq hgk3
        subst he
        exact hXk3 _ rfl _ _ _ hP hD hS (lv_sub hl [] rfl)
      · replace hf := jx_neg hq hf
        refine lv_lload_n hx hb dX1_at_18 rfl (lv_at hl 1 rfl) ?_
        refine lv_iload hx hb dX1_at_19 (lv_at hl 3 rfl) ?_
        obtain ⟨r5, hc, hf⟩ := jx_bs hf
        refine jx_ki (wr := [((a 13), .inr (1, [.ref (a 5), .ref (a 14), .ref (a 15), .int kf])), ((a 14), .inl (cL, 256, .inr (.inl bz))), ((a 15), .inl (cL, 8, .inr (.inl rw))), ((a 5), .inr (3, [.ref (a 6), .ref (a 7), .ref (a 8), .ref (a 9), .ref (a 10), .int tr, .int tl, .int ch])), ((a 6), .inl (cI, 8, .inl un)), ((a 7), .inl (cL, 8, .inr (.inl ow))), ((a 8), .inl (cI, 64, .inl ki)), ((a 9), .inl (cL, 64, .inr (.inl th))), ((a 10), .inl (cL, 8, .inr (.inl cm)))]) (ws2 := (wCl a cI cL un ow ki th cm tr tl ch bz rw kf)) (jx_runSN (As := [.long r1, .int s2.2]) (rest := []) ⟨hx, hb, hml, hown, hts⟩ (c_X6_isSet l D a cI cL r1 s2.2 r5 hc _) (va_cnB 2 hts gX1_at_X6_isSet_n45 rfl rfl rfl (hN (.methodLinkNest "PassedDuties$Clashes" 45 yX6_isSet "PassedDuties") (by decide +kernel)) (hts (.initialized RX6) (by decide +kernel)) (by decide +kernel) ⟨Nat.le_of_ble_eq_true rfl, Nat.le_of_ble_eq_true rfl⟩) (hts (.static yX6_isSet) (by decide +kernel)) hK hN hP hD [] rfl (by decide) rfl hl.1 rfl (Nat.le_of_ble_eq_true rfl) dX1_at_21 ⟨Nat.le_of_ble_eq_true rfl, Nat.le_of_ble_eq_true rfl⟩) hP hD hS hA [] [0, 1, 2, 3, 4, 5, 6, 7, 8] [0, 1, 2, 3, 4, 5, 6, 7, 8] rfl rfl (by decide) (by decide) rfl (by decide) (fun H locs hP hD hS => ?_)
        clear hc
        refine lv_if_eq (tgt := 39) hx hb dX1_at_24 (by decide) (fun hq => ?_) (fun hq => ?_)
        · replace hf := jx_pos hq hf
          refine lv_iinc (v := (s2.2 + (1 : Int32))) (lv' := [(5, .int (s2.2 + (1 : Int32))), (1, .int p0), (2, .long r1), (4, .int s2.1)]) hx hb dX1_at_39 hl (k := 3) rfl rfl (by decide) rfl (fun ls hl => ?_)
          refine lv_goto (tgt := 11) hx hb dX1_at_42 (by decide) ?_
          have he := jx_eq hf
          subst he
          exact ihk3 (s2.1, (s2.2 + (1 : Int32))) _ _ _ hgk3 hP hD hS (lv_sub hl [1, 2, 3, 0] rfl)
        · replace hf := jx_neg hq hf
          refine lv_iload hx hb dX1_at_27 (lv_at hl 2 rfl) ?_
          refine lv_iload_n hx hb dX1_at_29 rfl (lv_at hl 0 rfl) ?_
          refine lv_icmp_ne (tgt := 36) hx hb dX1_at_30 (by decide) (fun hq => ?_) (fun hq => ?_)
          · replace hf := jx_pos hq hf
            refine lv_iinc (v := (s2.1 + (1 : Int32))) (lv' := [(4, .int (s2.1 + (1 : Int32))), (1, .int p0), (2, .long r1), (5, .int s2.2)]) hx hb dX1_at_36 hl (k := 2) rfl rfl (by decide) rfl (fun ls hl => ?_)
            refine lv_iinc (v := (s2.2 + (1 : Int32))) (lv' := [(5, .int (s2.2 + (1 : Int32))), (4, .int (s2.1 + (1 : Int32))), (1, .int p0), (2, .long r1)]) hx hb dX1_at_39 hl (k := 3) rfl rfl (by decide) rfl (fun ls hl => ?_)
            refine lv_goto (tgt := 11) hx hb dX1_at_42 (by decide) ?_
            have he := jx_eq hf
            subst he
            exact ihk3 ((s2.1 + (1 : Int32)), (s2.2 + (1 : Int32))) _ _ _ hgk3 hP hD hS (lv_sub hl [2, 3, 1, 0] rfl)
          · replace hf := jx_negn hq hf
            refine lv_iload hx hb dX1_at_33 (lv_at hl 3 rfl) ?_
            have he := jx_eq hf
            subst he
            have he : Sum.inr _ = k3 := jx_eq hgk3
            subst he
            have hf := hkk3
            have he := jx_eq hf
            subst he
            exact jx_reti hx hb hr hlocks rfl hK hP hD hS dX1_at_35
  exact hLk3 jx_F ((0 : Int32), (0 : Int32)) _ _ _ hf hP hD hS (lv_sub hl [4, 2, 1, 0] rfl)
theorem iw_X1_keepAll_X1 : ∀ w ∈ wsX10, w ∈ wsX1_keepAll := by decide +kernel
theorem iw_X1_keepAll_X3 : ∀ w ∈ wsX30, w ∈ wsX1_keepAll := by decide +kernel
set_option maxHeartbeats 4000000 in
set_option maxRecDepth 100000 in
theorem c_X1_keepAll (l : Launch) (D : va_G) (a : Nat → Nat) (cI cL : ClassId) (un : (Nat → Int32)) (ow : (Nat → Int64)) (ki : (Nat → Int32)) (th : (Nat → Int64)) (cm : (Nat → Int64)) (tr : Int32) (tl : Int32) (ch : Int32) (bz : (Nat → Int64)) (rw : (Nat → Int64)) (kf : Int32) (res : ((Nat → Int64) × (Nat → Int64) × Int32)) (hf : pf_X1_keepAll ow th tr ch bz rw kf = some res) : jMv l yX1_keepAll wsX1_keepAll ({ frames := 3, cells := 0, slots := 0, locals := 66 }) D [(cI, .int), (cL, .long)] [.ref (a 13)] (wCl a cI cL un ow ki th cm tr tl ch bz rw kf) (wCl a cI cL un ow ki th cm tr tl ch res.1 res.2.1 res.2.2) := by
  intro sz
  refine Met.ofW (cc := cX1_keepAll) (maxL := 2) (ret := none) (by decide) rfl ?_
  intro p e s m args below meth c s₁ B hml hv
  obtain ⟨rfl, hsz, hP, hK, hD0, hN⟩ := hv
  have hx := B.exec
  have hb := B.bytes
  have hr := B.returns
  have hts := atoms_spec (ws := wsX1_keepAll) B.pre
  have hown : s.vm.findClass RX1 = some m.cls := findClass_of_methodNamed B.named
  have hlocks := B.notSynchronized
  subst hsz
  have hD := hD0.self (sz := s.heap.size)
  generalize hAe : va_A (wCl a cI cL un ow ki th cm tr tl ch bz rw kf) s.heap.size = A at hD ⊢
  have hA : ∀ q : Nat, s.heap.size ≤ q → A q := fun q h => by rw [← hAe]; exact Or.inr h
  have hS : va_S A s.heap s.heap [] := va_S.rf
  have hl := lv_entry ([.ref (a 13)]) (n := 2) (Nat.le_of_ble_eq_true rfl)
  rw [lg_entry_eq]
  generalize (lg_sl ([.ref (a 13)]) ++ List.replicate (2 - (lg_sl ([.ref (a 13)])).length) Slot.unset).toArray = ls at hl ⊢
  have hl : lv_has ls 2 [(0, .ref (a 13))] := hl
  have hf : pf_X1_keepAll ow th tr ch bz rw kf = some res := hf
  refine lv_aload_n hx hb dX1_keepAll_0 rfl (lv_at hl 0 rfl) ?_
  refine va_get (D := D) (ci := 1) (v := .int kf) (C := RX1) (T := TX1) (N := 4) hx hb hts iw_X1_keepAll_X1 hown hK hP 0 rfl rfl 3 (by decide) (hts (.fieldLink RX1 18 "PassedDuties$Clashes" "keptFor" "I") (by decide +kernel)) (fun _ h9 => h9) rfl dX1_keepAll_1 ?_
  refine lv_aload_n hx hb dX1_keepAll_4 rfl (lv_at hl 0 rfl) ?_
  refine va_get (D := D) (ci := 1) (v := .ref (a 5)) (C := RX1) (T := TX1) (N := 4) hx hb hts iw_X1_keepAll_X1 hown hK hP 0 rfl rfl 0 (by decide) (hts (.fieldLink RX1 22 "PassedDuties$Clashes" "parts" "LPassedDuties$Parts;") (by decide +kernel)) (fun _ h9 => h9) rfl dX1_keepAll_5 ?_
  refine va_getN (D := D) (ci := 3) (v := .int ch) (C := RX3) (T := TX3) (N := 8) hx hb hts iw_X1_keepAll_X3 hown hK hP 3 rfl rfl 7 (by decide) (va_Nw.use rfl (hN (.fieldLinkNest "PassedDuties$Clashes" 65 "PassedDuties$Parts" "changes" "I" "PassedDuties") (by decide +kernel))) (fun _ h9 => h9) rfl dX1_keepAll_8 ?_
  refine lv_icmp_ne (tgt := 15) hx hb dX1_keepAll_11 (by decide) (fun hq => ?_) (fun hq => ?_)
  · replace hf := jx_pos hq hf
    refine lv_iconst (v := 0) hx hb dX1_keepAll_15 (by decide) ?_
    refine lv_istore_n (lv' := [(1, .int (0 : Int32)), (0, .ref (a 13))]) hx hb dX1_keepAll_16 rfl hl (by decide) rfl (fun ls hl => ?_)
    obtain ⟨k2, hf, hkk2⟩ := jx_bs hf
    have hXk2 : ∀ (H : Heap) (locs : List Loc) (ls : Array Slot), va_P D vwCl (wCl a cI cL un ow ki th cm tr tl ch k2.1 k2.2 kf) H → va_D A (wCl a cI cL un ow ki th cm tr tl ch k2.1 k2.2 kf) → va_S A s.heap H locs → lv_has ls 2 [(0, .ref (a 13))] → jx_Wv p l e wsX1_keepAll ({ frames := 3, cells := 0, slots := 0, locals := 66 }) s m [.ref (a 13)] below meth c D [(cI, .int), (cL, .long)] (wCl a cI cL un ow ki th cm tr tl ch res.1 res.2.1 res.2.2) A H locs (F0 m 69 ls []) := by
      clear hf hP hD hS hl
      intro H locs ls hP hD hS hl
      have hf := hkk2
      refine lv_aload_n hx hb dX1_keepAll_69 rfl (lv_at hl 0 rfl) ?_
      refine lv_aload_n hx hb dX1_keepAll_70 rfl (lv_at hl 0 rfl) ?_
      refine va_get (D := D) (ci := 1) (v := .ref (a 5)) (C := RX1) (T := TX1) (N := 4) hx hb hts iw_X1_keepAll_X1 hown hK hP 0 rfl rfl 0 (by decide) (hts (.fieldLink RX1 22 "PassedDuties$Clashes" "parts" "LPassedDuties$Parts;") (by decide +kernel)) (fun _ h9 => h9) rfl dX1_keepAll_71 ?_
      refine va_getN (D := D) (ci := 3) (v := .int ch) (C := RX3) (T := TX3) (N := 8) hx hb hts iw_X1_keepAll_X3 hown hK hP 3 rfl rfl 7 (by decide) (va_Nw.use rfl (hN (.fieldLinkNest "PassedDuties$Clashes" 65 "PassedDuties$Parts" "changes" "I" "PassedDuties") (by decide +kernel))) (fun _ h9 => h9) rfl dX1_keepAll_74 ?_
      refine va_put (D := D) (ci := 1) (v := .int ch) (ty := .int) (C := RX1) (T := TX1) (N := 4) hx hb hts iw_X1_keepAll_X1 tyX1 tyX1_ok nmX1 hown hK hP hD hS 0 rfl rfl 3 (by decide) (hts (.fieldLink RX1 18 "PassedDuties$Clashes" "keptFor" "I") (by decide +kernel)) (fun _ h9 => h9) rfl (by decide +kernel) rfl rfl (Nat.le_of_ble_eq_true rfl) dX1_keepAll_77 (fun H locs hP hD hS => ?_)
      have hP : va_P D vwCl (wCl a cI cL un ow ki th cm tr tl ch k2.1 k2.2 ch) H := hP
      have hD : va_D A (wCl a cI cL un ow ki th cm tr tl ch k2.1 k2.2 ch) := hD
      have he := jx_eq hf
      subst he
      exact jx_retv hx hb hr hlocks hK hP hD hS dX1_keepAll_80
    have hLk2 : ∀ (n : Nat) (s1 : (Int32 × (Nat → Int64) × (Nat → Int64))) (H : Heap) (locs : List Loc) (ls : Array Slot), jx_iter (pf_X1_keepAll_s1 ow th tr) n s1 = some k2 → va_P D vwCl (wCl a cI cL un ow ki th cm tr tl ch s1.2.1 s1.2.2 kf) H → va_D A (wCl a cI cL un ow ki th cm tr tl ch s1.2.1 s1.2.2 kf) → va_S A s.heap H locs → lv_has ls 2 [(0, .ref (a 13)), (1, .int s1.1)] → jx_Wv p l e wsX1_keepAll ({ frames := 3, cells := 0, slots := 0, locals := 66 }) s m [.ref (a 13)] below meth c D [(cI, .int), (cL, .long)] (wCl a cI cL un ow ki th cm tr tl ch res.1 res.2.1 res.2.2) A H locs (F0 m 17 ls []) := by
      clear hf hP hD hS hl
      intro n
      induction n with
      | zero => intro s1 _ _ _ hf; cases hf
      | succ n ihk2 =>
        intro s1 H locs ls hf hP hD hS hl
        obtain ⟨q3, hf, hgk2⟩ := jx_bs hf
        refine lv_iload_n hx hb dX1_keepAll_17 rfl (lv_at hl 1 rfl) ?_
        refine lv_sipush (v := 256) hx hb dX1_keepAll_18 (by decide) ?_
        refine lv_icmp_ge (tgt := 69) hx hb dX1_keepAll_21 (by decide) (fun hq => ?_) (fun hq => ?_)
        · replace hf := jx_pos hq hf
          have he := jx_eq hf
          subst he
          have he : _ = k2 := jx_eq hgk2
          subst he
          exact hXk2 _ _ _ hP hD hS (lv_sub hl [0] rfl)
        · replace hf := jx_neg hq hf
          refine lv_iload_n hx hb dX1_keepAll_24 rfl (lv_at hl 1 rfl) ?_
          refine lv_aload_n hx hb dX1_keepAll_25 rfl (lv_at hl 0 rfl) ?_
          refine va_get (D := D) (ci := 1) (v := .ref (a 5)) (C := RX1) (T := TX1) (N := 4) hx hb hts iw_X1_keepAll_X1 hown hK hP 0 rfl rfl 0 (by decide) (hts (.fieldLink RX1 22 "PassedDuties$Clashes" "parts" "LPassedDuties$Parts;") (by decide +kernel)) (fun _ h9 => h9) rfl dX1_keepAll_26 ?_
          refine va_getN (D := D) (ci := 3) (v := .int tr) (C := RX3) (T := TX3) (N := 8) hx hb hts iw_X1_keepAll_X3 hown hK hP 3 rfl rfl 5 (by decide) (va_Nw.use rfl (hN (.fieldLinkNest "PassedDuties$Clashes" 52 "PassedDuties$Parts" "there" "I" "PassedDuties") (by decide +kernel))) (fun _ h9 => h9) rfl dX1_keepAll_29 ?_
          refine lv_iconst (v := -1) hx hb dX1_keepAll_32 (by decide) ?_
          refine lv_ixor hx hb dX1_keepAll_33 ?_
          refine lv_iand hx hb dX1_keepAll_34 ?_
          obtain ⟨j4, hf, hkj4⟩ := jx_bs hf
          have hJj4 : ∀ (H : Heap) (locs : List Loc) (ls : Array Slot), va_P D vwCl (wCl a cI cL un ow ki th cm tr tl ch j4.1 j4.2 kf) H → va_D A (wCl a cI cL un ow ki th cm tr tl ch j4.1 j4.2 kf) → va_S A s.heap H locs → lv_has ls 2 [(0, .ref (a 13)), (1, .int s1.1)] → jx_Wv p l e wsX1_keepAll ({ frames := 3, cells := 0, slots := 0, locals := 66 }) s m [.ref (a 13)] below meth c D [(cI, .int), (cL, .long)] (wCl a cI cL un ow ki th cm tr tl ch res.1 res.2.1 res.2.2) A H locs (F0 m 63 ls []) := by
            clear hf hP hD hS hl
            intro H locs ls hP hD hS hl
            have hf := hkj4
            refine lv_iinc (v := (s1.1 + (1 : Int32))) (lv' := [(1, .int (s1.1 + (1 : Int32))), (0, .ref (a 13))]) hx hb dX1_keepAll_63 hl (k := 1) rfl rfl (by decide) rfl (fun ls hl => ?_)
            refine lv_goto (tgt := 17) hx hb dX1_keepAll_66 (by decide) ?_
            have he := jx_eq hf
            subst he
            exact ihk2 ((s1.1 + (1 : Int32)), j4.1, j4.2) _ _ _ hgk2 hP hD hS (lv_sub hl [1, 0] rfl)
          refine lv_if_ne (tgt := 63) hx hb dX1_keepAll_35 (by decide) (fun hq => ?_) (fun hq => ?_)
          · replace hf := jx_pos hq hf
            have he := jx_eq hf
            subst he
            exact hJj4 _ _ _ hP hD hS (lv_sub hl [0, 1] rfl)
          · replace hf := jx_negn hq hf
            refine lv_aload_n hx hb dX1_keepAll_38 rfl (lv_at hl 0 rfl) ?_
            refine va_get (D := D) (ci := 1) (v := .ref (a 5)) (C := RX1) (T := TX1) (N := 4) hx hb hts iw_X1_keepAll_X1 hown hK hP 0 rfl rfl 0 (by decide) (hts (.fieldLink RX1 22 "PassedDuties$Clashes" "parts" "LPassedDuties$Parts;") (by decide +kernel)) (fun _ h9 => h9) rfl dX1_keepAll_39 ?_
            refine lv_iload_n hx hb dX1_keepAll_42 rfl (lv_at hl 1 rfl) ?_
            refine lv_aload_n hx hb dX1_keepAll_43 rfl (lv_at hl 0 rfl) ?_
            refine va_get (D := D) (ci := 1) (v := .ref (a 15)) (C := RX1) (T := TX1) (N := 4) hx hb hts iw_X1_keepAll_X1 hown hK hP 0 rfl rfl 2 (by decide) (hts (.fieldLink RX1 15 "PassedDuties$Clashes" "rows" "[J") (by decide +kernel)) (fun _ h9 => h9) rfl dX1_keepAll_44 ?_
            obtain ⟨r5, hc, hf⟩ := jx_bs hf
            refine jx_kv (wr := [((a 13), .inr (1, [.ref (a 5), .ref (a 14), .ref (a 15), .int kf])), ((a 14), .inl (cL, 256, .inr (.inl s1.2.1))), ((a 6), .inl (cI, 8, .inl un)), ((a 8), .inl (cI, 64, .inl ki)), ((a 10), .inl (cL, 8, .inr (.inl cm)))]) (ws2 := (wCl a cI cL un ow ki th cm tr tl ch s1.2.1 r5 kf)) (jx_runV (As := [.int s1.1, .ref (a 15)]) (rest := []) ⟨hx, hb, hml, hown, hts⟩ (c_X3_spread l D a (a 15) cI cL ow th tr tl ch s1.2.2 s1.1 r5 hc _) (cwV 2 hts gX1_keepAll_X3_spread rfl rfl rfl (by decide +kernel) ⟨Nat.le_of_ble_eq_true rfl, Nat.le_of_ble_eq_true rfl⟩) hK hN hP hD [3, 5, 7, 2] rfl (by decide) 3 3 rfl rfl rfl hl.1 rfl (Nat.le_of_ble_eq_true rfl) dX1_keepAll_47 ⟨Nat.le_of_ble_eq_true rfl, Nat.le_of_ble_eq_true rfl⟩) hP hD hS hA [3, 5, 7, 2] [0, 1, 4, 6, 8] [0, 1, 8, 5, 2, 6, 3, 7, 4] rfl rfl (by decide) (by decide) rfl (by decide) (fun H locs hP hD hS => ?_)
            clear hc
            refine lv_aload_n hx hb dX1_keepAll_50 rfl (lv_at hl 0 rfl) ?_
            refine va_get (D := D) (ci := 1) (v := .ref (a 14)) (C := RX1) (T := TX1) (N := 4) hx hb hts iw_X1_keepAll_X1 hown hK hP 0 rfl rfl 1 (by decide) (hts (.fieldLink RX1 9 "PassedDuties$Clashes" "bySet" "[J") (by decide +kernel)) (fun _ h9 => h9) rfl dX1_keepAll_51 ?_
            refine lv_iload_n hx hb dX1_keepAll_54 rfl (lv_at hl 1 rfl) ?_
            refine lv_aload_n hx hb dX1_keepAll_55 rfl (lv_at hl 0 rfl) ?_
            refine va_get (D := D) (ci := 1) (v := .ref (a 15)) (C := RX1) (T := TX1) (N := 4) hx hb hts iw_X1_keepAll_X1 hown hK hP 0 rfl rfl 2 (by decide) (hts (.fieldLink RX1 15 "PassedDuties$Clashes" "rows" "[J") (by decide +kernel)) (fun _ h9 => h9) rfl dX1_keepAll_56 ?_
            obtain ⟨r6, hc, hf⟩ := jx_bs hf
            refine jx_kl (wr := [((a 13), .inr (1, [.ref (a 5), .ref (a 14), .ref (a 15), .int kf])), ((a 14), .inl (cL, 256, .inr (.inl s1.2.1))), ((a 5), .inr (3, [.ref (a 6), .ref (a 7), .ref (a 8), .ref (a 9), .ref (a 10), .int tr, .int tl, .int ch])), ((a 6), .inl (cI, 8, .inl un)), ((a 7), .inl (cL, 8, .inr (.inl ow))), ((a 8), .inl (cI, 64, .inl ki)), ((a 9), .inl (cL, 64, .inr (.inl th))), ((a 10), .inl (cL, 8, .inr (.inl cm)))]) (ws2 := (wCl a cI cL un ow ki th cm tr tl ch s1.2.1 r5 kf)) (jx_runS (As := [.ref (a 15)]) (rest := [.int s1.1, .ref (a 14)]) ⟨hx, hb, hml, hown, hts⟩ (c_X1_meetings l D a (a 15) cI cL r5 r6 hc _) (va_cwS 1 hts gX1_keepAll_X1_meetings rfl rfl rfl (by decide +kernel) ⟨Nat.le_of_ble_eq_true rfl, Nat.le_of_ble_eq_true rfl⟩) hK hN hP hD [2] rfl (by decide) rfl hl.1 rfl (Nat.le_of_ble_eq_true rfl) dX1_keepAll_59 ⟨Nat.le_of_ble_eq_true rfl, Nat.le_of_ble_eq_true rfl⟩) hP hD hS hA [2] [0, 1, 3, 4, 5, 6, 7, 8] [0, 1, 8, 2, 3, 4, 5, 6, 7] rfl rfl (by decide) (by decide) rfl (by decide) (fun H locs hP hD hS => ?_)
            clear hc
            obtain ⟨hi, hf⟩ := jx_gs hf
            refine va_last hx hb hK hP hD hS 1 1 rfl rfl (jx_ip hi) dX1_keepAll_62 (fun H locs hP hD hS => ?_)
            clear hi
            have hP : va_P D vwCl (wCl a cI cL un ow ki th cm tr tl ch (vp_updL s1.2.1 (s1.1).toNatClampNeg r6) r5 kf) H := hP
            have hD : va_D A (wCl a cI cL un ow ki th cm tr tl ch (vp_updL s1.2.1 (s1.1).toNatClampNeg r6) r5 kf) := hD
            have he := jx_eq hf
            subst he
            exact hJj4 _ _ _ hP hD hS (lv_sub hl [0, 1] rfl)
    exact hLk2 jx_F ((0 : Int32), bz, rw) _ _ _ hf hP hD hS (lv_sub hl [1, 0] rfl)
  · replace hf := jx_negn hq hf
    have he := jx_eq hf
    subst he
    exact jx_retv hx hb hr hlocks hK hP hD hS dX1_keepAll_14
theorem iw_X1_isFewer_X1 : ∀ w ∈ wsX10, w ∈ wsX1_isFewer := by decide +kernel
theorem iw_X1_isFewer_X3 : ∀ w ∈ wsX30, w ∈ wsX1_isFewer := by decide +kernel
set_option maxHeartbeats 4000000 in
set_option maxRecDepth 100000 in
theorem c_X1_isFewer (l : Launch) (D : va_G) (a : Nat → Nat) (cI cL : ClassId) (un : (Nat → Int32)) (ow : (Nat → Int64)) (ki : (Nat → Int32)) (th : (Nat → Int64)) (cm : (Nat → Int64)) (tr : Int32) (tl : Int32) (ch : Int32) (bz : (Nat → Int64)) (rw : (Nat → Int64)) (kf : Int32) (p0 : Int32) (p1 : Int32) (res : Int32) (hf : pf_X1_isFewer tr p0 p1 = some res) : jMi l yX1_isFewer wsX1_isFewer ({ frames := 1, cells := 0, slots := 0, locals := 20 }) D [(cI, .int), (cL, .long)] [.ref (a 13), .int p0, .int p1] (wCl a cI cL un ow ki th cm tr tl ch bz rw kf) res (wCl a cI cL un ow ki th cm tr tl ch bz rw kf) := by
  intro sz
  refine Met.ofW (cc := cX1_isFewer) (maxL := 3) (ret := (some .boolean)) (by decide) rfl ?_
  intro p e s m args below meth c s₁ B hml hv
  obtain ⟨rfl, hsz, hP, hK, hD0, hN⟩ := hv
  have hx := B.exec
  have hb := B.bytes
  have hr := B.returns
  have hts := atoms_spec (ws := wsX1_isFewer) B.pre
  have hown : s.vm.findClass RX1 = some m.cls := findClass_of_methodNamed B.named
  have hlocks := B.notSynchronized
  subst hsz
  have hD := hD0.self (sz := s.heap.size)
  generalize hAe : va_A (wCl a cI cL un ow ki th cm tr tl ch bz rw kf) s.heap.size = A at hD ⊢
  have hA : ∀ q : Nat, s.heap.size ≤ q → A q := fun q h => by rw [← hAe]; exact Or.inr h
  have hS : va_S A s.heap s.heap [] := va_S.rf
  have hl := lv_entry ([.ref (a 13), .int p0, .int p1]) (n := 3) (Nat.le_of_ble_eq_true rfl)
  rw [lg_entry_eq]
  generalize (lg_sl ([.ref (a 13), .int p0, .int p1]) ++ List.replicate (3 - (lg_sl ([.ref (a 13), .int p0, .int p1])).length) Slot.unset).toArray = ls at hl ⊢
  have hl : lv_has ls 3 [(0, .ref (a 13)), (1, .int p0), (2, .int p1)] := hl
  have hf : pf_X1_isFewer tr p0 p1 = some res := hf
  refine lv_iload_n hx hb dX1_isFewer_0 rfl (lv_at hl 1 rfl) ?_
  refine lv_aload_n hx hb dX1_isFewer_1 rfl (lv_at hl 0 rfl) ?_
  refine va_get (D := D) (ci := 1) (v := .ref (a 5)) (C := RX1) (T := TX1) (N := 4) hx hb hts iw_X1_isFewer_X1 hown hK hP 0 rfl rfl 0 (by decide) (hts (.fieldLink RX1 22 "PassedDuties$Clashes" "parts" "LPassedDuties$Parts;") (by decide +kernel)) (fun _ h9 => h9) rfl dX1_isFewer_2 ?_
  refine va_getN (D := D) (ci := 3) (v := .int tr) (C := RX3) (T := TX3) (N := 8) hx hb hts iw_X1_isFewer_X3 hown hK hP 3 rfl rfl 5 (by decide) (va_Nw.use rfl (hN (.fieldLinkNest "PassedDuties$Clashes" 52 "PassedDuties$Parts" "there" "I" "PassedDuties") (by decide +kernel))) (fun _ h9 => h9) rfl dX1_isFewer_5 ?_
  refine lv_iconst (v := -1) hx hb dX1_isFewer_8 (by decide) ?_
  refine lv_ixor hx hb dX1_isFewer_9 ?_
  refine lv_iand hx hb dX1_isFewer_10 ?_
  refine lv_if_ne (tgt := 29) hx hb dX1_isFewer_11 (by decide) (fun hq => ?_) (fun hq => ?_)
  · replace hf := jx_pos hq hf
    refine lv_iconst (v := 0) hx hb dX1_isFewer_29 (by decide) ?_
    have he := jx_eq hf
    subst he
    exact jx_retz hx hb hr hlocks narrow_b0 rfl hK hP hD hS dX1_isFewer_30
  · replace hf := jx_negn hq hf
    refine lv_iload_n hx hb dX1_isFewer_14 rfl (lv_at hl 1 rfl) ?_
    obtain ⟨r1, hc, hf⟩ := jx_bs hf
    refine jx_ki (wr := [((a 13), .inr (1, [.ref (a 5), .ref (a 14), .ref (a 15), .int kf])), ((a 14), .inl (cL, 256, .inr (.inl bz))), ((a 15), .inl (cL, 8, .inr (.inl rw))), ((a 5), .inr (3, [.ref (a 6), .ref (a 7), .ref (a 8), .ref (a 9), .ref (a 10), .int tr, .int tl, .int ch])), ((a 6), .inl (cI, 8, .inl un)), ((a 7), .inl (cL, 8, .inr (.inl ow))), ((a 8), .inl (cI, 64, .inl ki)), ((a 9), .inl (cL, 64, .inr (.inl th))), ((a 10), .inl (cL, 8, .inr (.inl cm)))]) (ws2 := (wCl a cI cL un ow ki th cm tr tl ch bz rw kf)) (jx_runS (As := [.int p0]) (rest := []) ⟨hx, hb, hml, hown, hts⟩ (c_J6_bitCount_0f7a4 l D a cI cL p0 r1 hc _) (va_cwS 1 hts gX1_isFewer_J6_bitCount_0f7a4 rfl rfl rfl (by decide +kernel) ⟨Nat.le_of_ble_eq_true rfl, Nat.le_of_ble_eq_true rfl⟩) hK hN hP hD [] rfl (by decide) rfl hl.1 rfl (Nat.le_of_ble_eq_true rfl) dX1_isFewer_15 ⟨Nat.le_of_ble_eq_true rfl, Nat.le_of_ble_eq_true rfl⟩) hP hD hS hA [] [0, 1, 2, 3, 4, 5, 6, 7, 8] [0, 1, 2, 3, 4, 5, 6, 7, 8] rfl rfl (by decide) (by decide) rfl (by decide) (fun H locs hP hD hS => ?_)
    clear hc
    refine lv_iload_n hx hb dX1_isFewer_18 rfl (lv_at hl 2 rfl) ?_
    obtain ⟨r2, hc, hf⟩ := jx_bs hf
    refine jx_ki (wr := [((a 13), .inr (1, [.ref (a 5), .ref (a 14), .ref (a 15), .int kf])), ((a 14), .inl (cL, 256, .inr (.inl bz))), ((a 15), .inl (cL, 8, .inr (.inl rw))), ((a 5), .inr (3, [.ref (a 6), .ref (a 7), .ref (a 8), .ref (a 9), .ref (a 10), .int tr, .int tl, .int ch])), ((a 6), .inl (cI, 8, .inl un)), ((a 7), .inl (cL, 8, .inr (.inl ow))), ((a 8), .inl (cI, 64, .inl ki)), ((a 9), .inl (cL, 64, .inr (.inl th))), ((a 10), .inl (cL, 8, .inr (.inl cm)))]) (ws2 := (wCl a cI cL un ow ki th cm tr tl ch bz rw kf)) (jx_runS (As := [.int p1]) (rest := [.int r1]) ⟨hx, hb, hml, hown, hts⟩ (c_J6_bitCount_0f7a4 l D a cI cL p1 r2 hc _) (va_cwS 1 hts gX1_isFewer_J6_bitCount_0f7a4 rfl rfl rfl (by decide +kernel) ⟨Nat.le_of_ble_eq_true rfl, Nat.le_of_ble_eq_true rfl⟩) hK hN hP hD [] rfl (by decide) rfl hl.1 rfl (Nat.le_of_ble_eq_true rfl) dX1_isFewer_19 ⟨Nat.le_of_ble_eq_true rfl, Nat.le_of_ble_eq_true rfl⟩) hP hD hS hA [] [0, 1, 2, 3, 4, 5, 6, 7, 8] [0, 1, 2, 3, 4, 5, 6, 7, 8] rfl rfl (by decide) (by decide) rfl (by decide) (fun H locs hP hD hS => ?_)
    clear hc
    refine lv_icmp_ge (tgt := 29) hx hb dX1_isFewer_22 (by decide) (fun hq => ?_) (fun hq => ?_)
    · replace hf := jx_pos hq hf
      refine lv_iconst (v := 0) hx hb dX1_isFewer_29 (by decide) ?_
      have he := jx_eq hf
      subst he
      exact jx_retz hx hb hr hlocks narrow_b0 rfl hK hP hD hS dX1_isFewer_30
    · replace hf := jx_neg hq hf
      refine lv_iconst (v := 1) hx hb dX1_isFewer_25 (by decide) ?_
      refine lv_goto (tgt := 30) hx hb dX1_isFewer_26 (by decide) ?_
      have he := jx_eq hf
      subst he
      exact jx_retz hx hb hr hlocks narrow_b1 rfl hK hP hD hS dX1_isFewer_30
theorem iw_X1_fewestFor_X1 : ∀ w ∈ wsX10, w ∈ wsX1_fewestFor := by decide +kernel
theorem iw_X1_fewestFor_X3 : ∀ w ∈ wsX30, w ∈ wsX1_fewestFor := by decide +kernel
set_option maxHeartbeats 4000000 in
set_option maxRecDepth 100000 in
theorem c_X1_fewestFor (l : Launch) (D : va_G) (a : Nat → Nat) (cI cL : ClassId) (un : (Nat → Int32)) (ow : (Nat → Int64)) (ki : (Nat → Int32)) (th : (Nat → Int64)) (cm : (Nat → Int64)) (tr : Int32) (tl : Int32) (ch : Int32) (bz : (Nat → Int64)) (rw : (Nat → Int64)) (kf : Int32) (p0 : Int32) (res : (Int32 × (Nat → Int64) × (Nat → Int64) × Int32)) (hf : pf_X1_fewestFor ow th cm tr ch bz rw kf p0 = some res) : jMi l yX1_fewestFor wsX1_fewestFor ({ frames := 4, cells := 0, slots := 0, locals := 87 }) D [(cI, .int), (cL, .long)] [.ref (a 13), .int p0] (wCl a cI cL un ow ki th cm tr tl ch bz rw kf) res.1 (wCl a cI cL un ow ki th cm tr tl ch res.2.1 res.2.2.1 res.2.2.2) := by
  intro sz
  refine Met.ofW (cc := cX1_fewestFor) (maxL := 4) (ret := (some .int)) (by decide) rfl ?_
  intro p e s m args below meth c s₁ B hml hv
  obtain ⟨rfl, hsz, hP, hK, hD0, hN⟩ := hv
  have hx := B.exec
  have hb := B.bytes
  have hr := B.returns
  have hts := atoms_spec (ws := wsX1_fewestFor) B.pre
  have hown : s.vm.findClass RX1 = some m.cls := findClass_of_methodNamed B.named
  have hlocks := B.notSynchronized
  subst hsz
  have hD := hD0.self (sz := s.heap.size)
  generalize hAe : va_A (wCl a cI cL un ow ki th cm tr tl ch bz rw kf) s.heap.size = A at hD ⊢
  have hA : ∀ q : Nat, s.heap.size ≤ q → A q := fun q h => by rw [← hAe]; exact Or.inr h
  have hS : va_S A s.heap s.heap [] := va_S.rf
  have hl := lv_entry ([.ref (a 13), .int p0]) (n := 4) (Nat.le_of_ble_eq_true rfl)
  rw [lg_entry_eq]
  generalize (lg_sl ([.ref (a 13), .int p0]) ++ List.replicate (4 - (lg_sl ([.ref (a 13), .int p0])).length) Slot.unset).toArray = ls at hl ⊢
  have hl : lv_has ls 4 [(0, .ref (a 13)), (1, .int p0)] := hl
  have hf : pf_X1_fewestFor ow th cm tr ch bz rw kf p0 = some res := hf
  refine lv_aload_n hx hb dX1_fewestFor_0 rfl (lv_at hl 0 rfl) ?_
  obtain ⟨r1, hc, hf⟩ := jx_bs hf
  refine jx_kl (wr := []) (ws2 := (wCl a cI cL un ow ki th cm tr tl ch bz rw kf)) (jx_runV (As := []) (rest := []) ⟨hx, hb, hml, hown, hts⟩ (c_X1_now l D a cI cL un ow ki th cm tr tl ch bz rw kf r1 hc _) (cwV 0 hts gX1_fewestFor_X1_now rfl rfl rfl (by decide +kernel) ⟨Nat.le_of_ble_eq_true rfl, Nat.le_of_ble_eq_true rfl⟩) hK hN hP hD [0, 1, 2, 3, 4, 5, 6, 7, 8] rfl (by decide) 0 1 rfl rfl rfl hl.1 rfl (Nat.le_of_ble_eq_true rfl) dX1_fewestFor_1 ⟨Nat.le_of_ble_eq_true rfl, Nat.le_of_ble_eq_true rfl⟩) hP hD hS hA [0, 1, 2, 3, 4, 5, 6, 7, 8] [] [0, 1, 2, 3, 4, 5, 6, 7, 8] rfl rfl (by decide) (by decide) rfl (by decide) (fun H locs hP hD hS => ?_)
  clear hc
  refine lv_iload_n hx hb dX1_fewestFor_4 rfl (lv_at hl 1 rfl) ?_
  obtain ⟨r2, hc, hf⟩ := jx_bs hf
  refine jx_ki (wr := [((a 13), .inr (1, [.ref (a 5), .ref (a 14), .ref (a 15), .int kf])), ((a 14), .inl (cL, 256, .inr (.inl bz))), ((a 15), .inl (cL, 8, .inr (.inl rw))), ((a 5), .inr (3, [.ref (a 6), .ref (a 7), .ref (a 8), .ref (a 9), .ref (a 10), .int tr, .int tl, .int ch])), ((a 6), .inl (cI, 8, .inl un)), ((a 7), .inl (cL, 8, .inr (.inl ow))), ((a 8), .inl (cI, 64, .inl ki)), ((a 9), .inl (cL, 64, .inr (.inl th))), ((a 10), .inl (cL, 8, .inr (.inl cm)))]) (ws2 := (wCl a cI cL un ow ki th cm tr tl ch bz rw kf)) (jx_runSN (As := [.long r1, .int p0]) (rest := []) ⟨hx, hb, hml, hown, hts⟩ (c_X6_isSet l D a cI cL r1 p0 r2 hc _) (va_cnB 2 hts gX1_fewestFor_X6_isSet_n45 rfl rfl rfl (hN (.methodLinkNest "PassedDuties$Clashes" 45 yX6_isSet "PassedDuties") (by decide +kernel)) (hts (.initialized RX6) (by decide +kernel)) (by decide +kernel) ⟨Nat.le_of_ble_eq_true rfl, Nat.le_of_ble_eq_true rfl⟩) (hts (.static yX6_isSet) (by decide +kernel)) hK hN hP hD [] rfl (by decide) rfl hl.1 rfl (Nat.le_of_ble_eq_true rfl) dX1_fewestFor_5 ⟨Nat.le_of_ble_eq_true rfl, Nat.le_of_ble_eq_true rfl⟩) hP hD hS hA [] [0, 1, 2, 3, 4, 5, 6, 7, 8] [0, 1, 2, 3, 4, 5, 6, 7, 8] rfl rfl (by decide) (by decide) rfl (by decide) (fun H locs hP hD hS => ?_)
  clear hc
  refine lv_if_ne (tgt := 13) hx hb dX1_fewestFor_8 (by decide) (fun hq => ?_) (fun hq => ?_)
  · replace hf := jx_pos hq hf
    refine lv_aload_n hx hb dX1_fewestFor_13 rfl (lv_at hl 0 rfl) ?_
    obtain ⟨r3, hc, hf⟩ := jx_bs hf
    refine jx_kv (wr := []) (ws2 := (wCl a cI cL un ow ki th cm tr tl ch r3.1 r3.2.1 r3.2.2)) (jx_runV (As := []) (rest := []) ⟨hx, hb, hml, hown, hts⟩ (c_X1_keepAll l D a cI cL un ow ki th cm tr tl ch bz rw kf r3 hc _) (cwV 0 hts gX1_fewestFor_X1_keepAll rfl rfl rfl (by decide +kernel) ⟨Nat.le_of_ble_eq_true rfl, Nat.le_of_ble_eq_true rfl⟩) hK hN hP hD [0, 1, 2, 3, 4, 5, 6, 7, 8] rfl (by decide) 0 1 rfl rfl rfl hl.1 rfl (Nat.le_of_ble_eq_true rfl) dX1_fewestFor_14 ⟨Nat.le_of_ble_eq_true rfl, Nat.le_of_ble_eq_true rfl⟩) hP hD hS hA [0, 1, 2, 3, 4, 5, 6, 7, 8] [] [0, 1, 2, 3, 4, 5, 6, 7, 8] rfl rfl (by decide) (by decide) rfl (by decide) (fun H locs hP hD hS => ?_)
    clear hc
    refine lv_aload_n hx hb dX1_fewestFor_17 rfl (lv_at hl 0 rfl) ?_
    refine va_get (D := D) (ci := 1) (v := .ref (a 5)) (C := RX1) (T := TX1) (N := 4) hx hb hts iw_X1_fewestFor_X1 hown hK hP 0 rfl rfl 0 (by decide) (hts (.fieldLink RX1 22 "PassedDuties$Clashes" "parts" "LPassedDuties$Parts;") (by decide +kernel)) (fun _ h9 => h9) rfl dX1_fewestFor_18 ?_
    refine va_getN (D := D) (ci := 3) (v := .int tr) (C := RX3) (T := TX3) (N := 8) hx hb hts iw_X1_fewestFor_X3 hown hK hP 3 rfl rfl 5 (by decide) (va_Nw.use rfl (hN (.fieldLinkNest "PassedDuties$Clashes" 52 "PassedDuties$Parts" "there" "I" "PassedDuties") (by decide +kernel))) (fun _ h9 => h9) rfl dX1_fewestFor_21 ?_
    refine lv_istore_n (lv' := [(2, .int tr), (0, .ref (a 13)), (1, .int p0)]) hx hb dX1_fewestFor_24 rfl hl (by decide) rfl (fun ls hl => ?_)
    refine lv_iconst (v := 0) hx hb dX1_fewestFor_25 (by decide) ?_
    refine lv_istore_n (lv' := [(3, .int (0 : Int32)), (2, .int tr), (0, .ref (a 13)), (1, .int p0)]) hx hb dX1_fewestFor_26 rfl hl (by decide) rfl (fun ls hl => ?_)
    obtain ⟨k5, hf, hkk5⟩ := jx_bs hf
    have hXk5 : ∀ (H : Heap) (locs : List Loc) (ls : Array Slot), va_P D vwCl (wCl a cI cL un ow ki th cm tr tl ch r3.1 r3.2.1 r3.2.2) H → va_D A (wCl a cI cL un ow ki th cm tr tl ch r3.1 r3.2.1 r3.2.2) → va_S A s.heap H locs → lv_has ls 4 [(2, .int k5)] → jx_Wi p l e wsX1_fewestFor ({ frames := 4, cells := 0, slots := 0, locals := 87 }) s m [.ref (a 13), .int p0] below meth c D [(cI, .int), (cL, .long)] (res.1) (wCl a cI cL un ow ki th cm tr tl ch res.2.1 res.2.2.1 res.2.2.2) A H locs (F0 m 64 ls []) := by
      clear hf hP hD hS hl
      intro H locs ls hP hD hS hl
      have hf := hkk5
      refine lv_iload_n hx hb dX1_fewestFor_64 rfl (lv_at hl 0 rfl) ?_
      have he := jx_eq hf
      subst he
      exact jx_reti hx hb hr hlocks rfl hK hP hD hS dX1_fewestFor_65
    have hLk5 : ∀ (n : Nat) (s4 : (Int32 × Int32)) (H : Heap) (locs : List Loc) (ls : Array Slot), jx_iter (pf_X1_fewestFor_s1 tr p0 r3) n s4 = some k5 → va_P D vwCl (wCl a cI cL un ow ki th cm tr tl ch r3.1 r3.2.1 r3.2.2) H → va_D A (wCl a cI cL un ow ki th cm tr tl ch r3.1 r3.2.1 r3.2.2) → va_S A s.heap H locs → lv_has ls 4 [(0, .ref (a 13)), (1, .int p0), (2, .int s4.1), (3, .int s4.2)] → jx_Wi p l e wsX1_fewestFor ({ frames := 4, cells := 0, slots := 0, locals := 87 }) s m [.ref (a 13), .int p0] below meth c D [(cI, .int), (cL, .long)] (res.1) (wCl a cI cL un ow ki th cm tr tl ch res.2.1 res.2.2.1 res.2.2.2) A H locs (F0 m 27 ls []) := by
      clear hf hP hD hS hl
      intro n
      induction n with
      | zero => intro s4 _ _ _ hf; cases hf
      | succ n ihk5 =>
        intro s4 H locs ls hf hP hD hS hl
        obtain ⟨q6, hf, hgk5⟩ := jx_bs hf
        refine lv_iload_n hx hb dX1_fewestFor_27 rfl (lv_at hl 3 rfl) ?_
        refine lv_sipush (v := 256) hx hb dX1_fewestFor_28 (by decide) ?_
        refine lv_icmp_ge (tgt := 64) hx hb dX1_fewestFor_31 (by decide) (fun hq => ?_) (fun hq => ?_)
        · replace hf := jx_pos hq hf
          have he := jx_eq hf
          subst he
          have he : _ = k5 := jx_eq hgk5
          subst he
          exact hXk5 _ _ _ hP hD hS (lv_sub hl [2] rfl)
        · replace hf := jx_neg hq hf
          refine lv_aload_n hx hb dX1_fewestFor_34 rfl (lv_at hl 0 rfl) ?_
          refine va_get (D := D) (ci := 1) (v := .ref (a 14)) (C := RX1) (T := TX1) (N := 4) hx hb hts iw_X1_fewestFor_X1 hown hK hP 0 rfl rfl 1 (by decide) (hts (.fieldLink RX1 9 "PassedDuties$Clashes" "bySet" "[J") (by decide +kernel)) (fun _ h9 => h9) rfl dX1_fewestFor_35 ?_
          refine lv_iload_n hx hb dX1_fewestFor_38 rfl (lv_at hl 3 rfl) ?_
          obtain ⟨hi, hf⟩ := jx_gs hf
          refine va_lald hx hb hK hP 1 1 rfl rfl (jx_ip hi) dX1_fewestFor_39 ?_
          clear hi
          refine lv_iload_n hx hb dX1_fewestFor_40 rfl (lv_at hl 1 rfl) ?_
          obtain ⟨r7, hc, hf⟩ := jx_bs hf
          refine jx_ki (wr := [((a 13), .inr (1, [.ref (a 5), .ref (a 14), .ref (a 15), .int r3.2.2])), ((a 14), .inl (cL, 256, .inr (.inl r3.1))), ((a 15), .inl (cL, 8, .inr (.inl r3.2.1))), ((a 5), .inr (3, [.ref (a 6), .ref (a 7), .ref (a 8), .ref (a 9), .ref (a 10), .int tr, .int tl, .int ch])), ((a 6), .inl (cI, 8, .inl un)), ((a 7), .inl (cL, 8, .inr (.inl ow))), ((a 8), .inl (cI, 64, .inl ki)), ((a 9), .inl (cL, 64, .inr (.inl th))), ((a 10), .inl (cL, 8, .inr (.inl cm)))]) (ws2 := (wCl a cI cL un ow ki th cm tr tl ch r3.1 r3.2.1 r3.2.2)) (jx_runSN (As := [.long (r3.1 (s4.2).toNatClampNeg), .int p0]) (rest := []) ⟨hx, hb, hml, hown, hts⟩ (c_X6_isSet l D a cI cL (r3.1 (s4.2).toNatClampNeg) p0 r7 hc _) (va_cnB 2 hts gX1_fewestFor_X6_isSet_n45 rfl rfl rfl (hN (.methodLinkNest "PassedDuties$Clashes" 45 yX6_isSet "PassedDuties") (by decide +kernel)) (hts (.initialized RX6) (by decide +kernel)) (by decide +kernel) ⟨Nat.le_of_ble_eq_true rfl, Nat.le_of_ble_eq_true rfl⟩) (hts (.static yX6_isSet) (by decide +kernel)) hK hN hP hD [] rfl (by decide) rfl hl.1 rfl (Nat.le_of_ble_eq_true rfl) dX1_fewestFor_41 ⟨Nat.le_of_ble_eq_true rfl, Nat.le_of_ble_eq_true rfl⟩) hP hD hS hA [] [0, 1, 2, 3, 4, 5, 6, 7, 8] [0, 1, 2, 3, 4, 5, 6, 7, 8] rfl rfl (by decide) (by decide) rfl (by decide) (fun H locs hP hD hS => ?_)
          clear hc
          obtain ⟨j8, hf, hkj8⟩ := jx_bs hf
          have hJj8 : ∀ (H : Heap) (locs : List Loc) (ls : Array Slot), va_P D vwCl (wCl a cI cL un ow ki th cm tr tl ch r3.1 r3.2.1 r3.2.2) H → va_D A (wCl a cI cL un ow ki th cm tr tl ch r3.1 r3.2.1 r3.2.2) → va_S A s.heap H locs → lv_has ls 4 [(0, .ref (a 13)), (1, .int p0), (2, .int j8), (3, .int s4.2)] → jx_Wi p l e wsX1_fewestFor ({ frames := 4, cells := 0, slots := 0, locals := 87 }) s m [.ref (a 13), .int p0] below meth c D [(cI, .int), (cL, .long)] (res.1) (wCl a cI cL un ow ki th cm tr tl ch res.2.1 res.2.2.1 res.2.2.2) A H locs (F0 m 58 ls []) := by
            clear hf hP hD hS hl
            intro H locs ls hP hD hS hl
            have hf := hkj8
            refine lv_iinc (v := (s4.2 + (1 : Int32))) (lv' := [(3, .int (s4.2 + (1 : Int32))), (0, .ref (a 13)), (1, .int p0), (2, .int j8)]) hx hb dX1_fewestFor_58 hl (k := 3) rfl rfl (by decide) rfl (fun ls hl => ?_)
            refine lv_goto (tgt := 27) hx hb dX1_fewestFor_61 (by decide) ?_
            have he := jx_eq hf
            subst he
            exact ihk5 (j8, (s4.2 + (1 : Int32))) _ _ _ hgk5 hP hD hS (lv_sub hl [1, 2, 3, 0] rfl)
          refine lv_if_eq (tgt := 58) hx hb dX1_fewestFor_44 (by decide) (fun hq => ?_) (fun hq => ?_)
          · replace hf := jx_pos hq hf
            have he := jx_eq hf
            subst he
            exact hJj8 _ _ _ hP hD hS (lv_sub hl [0, 1, 2, 3] rfl)
          · replace hf := jx_neg hq hf
            refine lv_aload_n hx hb dX1_fewestFor_47 rfl (lv_at hl 0 rfl) ?_
            refine lv_iload_n hx hb dX1_fewestFor_48 rfl (lv_at hl 3 rfl) ?_
            refine lv_iload_n hx hb dX1_fewestFor_49 rfl (lv_at hl 2 rfl) ?_
            obtain ⟨r9, hc, hf⟩ := jx_bs hf
            refine jx_ki (wr := []) (ws2 := (wCl a cI cL un ow ki th cm tr tl ch r3.1 r3.2.1 r3.2.2)) (jx_runV (As := [.int s4.2, .int s4.1]) (rest := []) ⟨hx, hb, hml, hown, hts⟩ (c_X1_isFewer l D a cI cL un ow ki th cm tr tl ch r3.1 r3.2.1 r3.2.2 s4.2 s4.1 r9 hc _) (cwV 2 hts gX1_fewestFor_X1_isFewer rfl rfl rfl (by decide +kernel) ⟨Nat.le_of_ble_eq_true rfl, Nat.le_of_ble_eq_true rfl⟩) hK hN hP hD [0, 1, 2, 3, 4, 5, 6, 7, 8] rfl (by decide) 0 1 rfl rfl rfl hl.1 rfl (Nat.le_of_ble_eq_true rfl) dX1_fewestFor_50 ⟨Nat.le_of_ble_eq_true rfl, Nat.le_of_ble_eq_true rfl⟩) hP hD hS hA [0, 1, 2, 3, 4, 5, 6, 7, 8] [] [0, 1, 2, 3, 4, 5, 6, 7, 8] rfl rfl (by decide) (by decide) rfl (by decide) (fun H locs hP hD hS => ?_)
            clear hc
            refine lv_if_eq (tgt := 58) hx hb dX1_fewestFor_53 (by decide) (fun hq => ?_) (fun hq => ?_)
            · replace hf := jx_pos hq hf
              have he := jx_eq hf
              subst he
              exact hJj8 _ _ _ hP hD hS (lv_sub hl [0, 1, 2, 3] rfl)
            · replace hf := jx_neg hq hf
              refine lv_iload_n hx hb dX1_fewestFor_56 rfl (lv_at hl 3 rfl) ?_
              refine lv_istore_n (lv' := [(2, .int s4.2), (0, .ref (a 13)), (1, .int p0), (3, .int s4.2)]) hx hb dX1_fewestFor_57 rfl hl (by decide) rfl (fun ls hl => ?_)
              have he := jx_eq hf
              subst he
              exact hJj8 _ _ _ hP hD hS (lv_sub hl [1, 2, 0, 3] rfl)
    exact hLk5 jx_F (tr, (0 : Int32)) _ _ _ hf hP hD hS (lv_sub hl [2, 3, 1, 0] rfl)
  · replace hf := jx_negn hq hf
    refine lv_iconst (v := -1) hx hb dX1_fewestFor_11 (by decide) ?_
    have he := jx_eq hf
    subst he
    exact jx_reti hx hb hr hlocks rfl hK hP hD hS dX1_fewestFor_12
theorem iw_X1_fewestToLeave_X1 : ∀ w ∈ wsX10, w ∈ wsX1_fewestToLeave := by decide +kernel
theorem iw_X1_fewestToLeave_X3 : ∀ w ∈ wsX30, w ∈ wsX1_fewestToLeave := by decide +kernel
set_option maxHeartbeats 4000000 in
set_option maxRecDepth 100000 in
theorem c_X1_fewestToLeave (l : Launch) (D : va_G) (a : Nat → Nat) (cI cL : ClassId) (un : (Nat → Int32)) (ow : (Nat → Int64)) (ki : (Nat → Int32)) (th : (Nat → Int64)) (cm : (Nat → Int64)) (tr : Int32) (tl : Int32) (ch : Int32) (bz : (Nat → Int64)) (rw : (Nat → Int64)) (kf : Int32) (res : (Int32 × (Nat → Int64) × (Nat → Int64) × Int32)) (hf : pf_X1_fewestToLeave ow th cm tr ch bz rw kf = some res) : jMi l yX1_fewestToLeave wsX1_fewestToLeave ({ frames := 4, cells := 0, slots := 0, locals := 87 }) D [(cI, .int), (cL, .long)] [.ref (a 13)] (wCl a cI cL un ow ki th cm tr tl ch bz rw kf) res.1 (wCl a cI cL un ow ki th cm tr tl ch res.2.1 res.2.2.1 res.2.2.2) := by
  intro sz
  refine Met.ofW (cc := cX1_fewestToLeave) (maxL := 3) (ret := (some .int)) (by decide) rfl ?_
  intro p e s m args below meth c s₁ B hml hv
  obtain ⟨rfl, hsz, hP, hK, hD0, hN⟩ := hv
  have hx := B.exec
  have hb := B.bytes
  have hr := B.returns
  have hts := atoms_spec (ws := wsX1_fewestToLeave) B.pre
  have hown : s.vm.findClass RX1 = some m.cls := findClass_of_methodNamed B.named
  have hlocks := B.notSynchronized
  subst hsz
  have hD := hD0.self (sz := s.heap.size)
  generalize hAe : va_A (wCl a cI cL un ow ki th cm tr tl ch bz rw kf) s.heap.size = A at hD ⊢
  have hA : ∀ q : Nat, s.heap.size ≤ q → A q := fun q h => by rw [← hAe]; exact Or.inr h
  have hS : va_S A s.heap s.heap [] := va_S.rf
  have hl := lv_entry ([.ref (a 13)]) (n := 3) (Nat.le_of_ble_eq_true rfl)
  rw [lg_entry_eq]
  generalize (lg_sl ([.ref (a 13)]) ++ List.replicate (3 - (lg_sl ([.ref (a 13)])).length) Slot.unset).toArray = ls at hl ⊢
  have hl : lv_has ls 3 [(0, .ref (a 13))] := hl
  have hf : pf_X1_fewestToLeave ow th cm tr ch bz rw kf = some res := hf
  refine lv_aload_n hx hb dX1_fewestToLeave_0 rfl (lv_at hl 0 rfl) ?_
  obtain ⟨r1, hc, hf⟩ := jx_bs hf
  refine jx_kl (wr := []) (ws2 := (wCl a cI cL un ow ki th cm tr tl ch bz rw kf)) (jx_runV (As := []) (rest := []) ⟨hx, hb, hml, hown, hts⟩ (c_X1_now l D a cI cL un ow ki th cm tr tl ch bz rw kf r1 hc _) (cwV 0 hts gX1_fewestToLeave_X1_now rfl rfl rfl (by decide +kernel) ⟨Nat.le_of_ble_eq_true rfl, Nat.le_of_ble_eq_true rfl⟩) hK hN hP hD [0, 1, 2, 3, 4, 5, 6, 7, 8] rfl (by decide) 0 1 rfl rfl rfl hl.1 rfl (Nat.le_of_ble_eq_true rfl) dX1_fewestToLeave_1 ⟨Nat.le_of_ble_eq_true rfl, Nat.le_of_ble_eq_true rfl⟩) hP hD hS hA [0, 1, 2, 3, 4, 5, 6, 7, 8] [] [0, 1, 2, 3, 4, 5, 6, 7, 8] rfl rfl (by decide) (by decide) rfl (by decide) (fun H locs hP hD hS => ?_)
  clear hc
  refine lv_lconst (v := 0) hx hb dX1_fewestToLeave_4 (by decide) ?_
  refine W.lcmp hx hb dX1_fewestToLeave_5 ?_
  refine W.eq (g2 := F0 m 6 ls [.int (lg_cmp r1 (0 : Int64))]) rfl ?_
  refine lv_if_ne (tgt := 11) hx hb dX1_fewestToLeave_6 (by decide) (fun hq => ?_) (fun hq => ?_)
  · replace hf := jx_pos hq hf
    refine lv_aload_n hx hb dX1_fewestToLeave_11 rfl (lv_at hl 0 rfl) ?_
    obtain ⟨r2, hc, hf⟩ := jx_bs hf
    refine jx_kv (wr := []) (ws2 := (wCl a cI cL un ow ki th cm tr tl ch r2.1 r2.2.1 r2.2.2)) (jx_runV (As := []) (rest := []) ⟨hx, hb, hml, hown, hts⟩ (c_X1_keepAll l D a cI cL un ow ki th cm tr tl ch bz rw kf r2 hc _) (cwV 0 hts gX1_fewestToLeave_X1_keepAll rfl rfl rfl (by decide +kernel) ⟨Nat.le_of_ble_eq_true rfl, Nat.le_of_ble_eq_true rfl⟩) hK hN hP hD [0, 1, 2, 3, 4, 5, 6, 7, 8] rfl (by decide) 0 1 rfl rfl rfl hl.1 rfl (Nat.le_of_ble_eq_true rfl) dX1_fewestToLeave_12 ⟨Nat.le_of_ble_eq_true rfl, Nat.le_of_ble_eq_true rfl⟩) hP hD hS hA [0, 1, 2, 3, 4, 5, 6, 7, 8] [] [0, 1, 2, 3, 4, 5, 6, 7, 8] rfl rfl (by decide) (by decide) rfl (by decide) (fun H locs hP hD hS => ?_)
    clear hc
    refine lv_aload_n hx hb dX1_fewestToLeave_15 rfl (lv_at hl 0 rfl) ?_
    refine va_get (D := D) (ci := 1) (v := .ref (a 5)) (C := RX1) (T := TX1) (N := 4) hx hb hts iw_X1_fewestToLeave_X1 hown hK hP 0 rfl rfl 0 (by decide) (hts (.fieldLink RX1 22 "PassedDuties$Clashes" "parts" "LPassedDuties$Parts;") (by decide +kernel)) (fun _ h9 => h9) rfl dX1_fewestToLeave_16 ?_
    refine va_getN (D := D) (ci := 3) (v := .int tr) (C := RX3) (T := TX3) (N := 8) hx hb hts iw_X1_fewestToLeave_X3 hown hK hP 3 rfl rfl 5 (by decide) (va_Nw.use rfl (hN (.fieldLinkNest "PassedDuties$Clashes" 52 "PassedDuties$Parts" "there" "I" "PassedDuties") (by decide +kernel))) (fun _ h9 => h9) rfl dX1_fewestToLeave_19 ?_
    refine lv_istore_n (lv' := [(1, .int tr), (0, .ref (a 13))]) hx hb dX1_fewestToLeave_22 rfl hl (by decide) rfl (fun ls hl => ?_)
    refine lv_iconst (v := 0) hx hb dX1_fewestToLeave_23 (by decide) ?_
    refine lv_istore_n (lv' := [(2, .int (0 : Int32)), (1, .int tr), (0, .ref (a 13))]) hx hb dX1_fewestToLeave_24 rfl hl (by decide) rfl (fun ls hl => ?_)
    obtain ⟨k4, hf, hkk4⟩ := jx_bs hf
    have hXk4 : ∀ (H : Heap) (locs : List Loc) (ls : Array Slot), va_P D vwCl (wCl a cI cL un ow ki th cm tr tl ch r2.1 r2.2.1 r2.2.2) H → va_D A (wCl a cI cL un ow ki th cm tr tl ch r2.1 r2.2.1 r2.2.2) → va_S A s.heap H locs → lv_has ls 3 [(1, .int k4)] → jx_Wi p l e wsX1_fewestToLeave ({ frames := 4, cells := 0, slots := 0, locals := 87 }) s m [.ref (a 13)] below meth c D [(cI, .int), (cL, .long)] (res.1) (wCl a cI cL un ow ki th cm tr tl ch res.2.1 res.2.2.1 res.2.2.2) A H locs (F0 m 70 ls []) := by
      clear hf hP hD hS hl
      intro H locs ls hP hD hS hl
      have hf := hkk4
      refine lv_iload_n hx hb dX1_fewestToLeave_70 rfl (lv_at hl 0 rfl) ?_
      have he := jx_eq hf
      subst he
      exact jx_reti hx hb hr hlocks rfl hK hP hD hS dX1_fewestToLeave_71
    have hLk4 : ∀ (n : Nat) (s3 : (Int32 × Int32)) (H : Heap) (locs : List Loc) (ls : Array Slot), jx_iter (pf_X1_fewestToLeave_s1 tr r2) n s3 = some k4 → va_P D vwCl (wCl a cI cL un ow ki th cm tr tl ch r2.1 r2.2.1 r2.2.2) H → va_D A (wCl a cI cL un ow ki th cm tr tl ch r2.1 r2.2.1 r2.2.2) → va_S A s.heap H locs → lv_has ls 3 [(0, .ref (a 13)), (1, .int s3.1), (2, .int s3.2)] → jx_Wi p l e wsX1_fewestToLeave ({ frames := 4, cells := 0, slots := 0, locals := 87 }) s m [.ref (a 13)] below meth c D [(cI, .int), (cL, .long)] (res.1) (wCl a cI cL un ow ki th cm tr tl ch res.2.1 res.2.2.1 res.2.2.2) A H locs (F0 m 25 ls []) := by
      clear hf hP hD hS hl
      intro n
      induction n with
      | zero => intro s3 _ _ _ hf; cases hf
      | succ n ihk4 =>
        intro s3 H locs ls hf hP hD hS hl
        obtain ⟨q5, hf, hgk4⟩ := jx_bs hf
        refine lv_iload_n hx hb dX1_fewestToLeave_25 rfl (lv_at hl 2 rfl) ?_
        refine lv_sipush (v := 256) hx hb dX1_fewestToLeave_26 (by decide) ?_
        refine lv_icmp_ge (tgt := 70) hx hb dX1_fewestToLeave_29 (by decide) (fun hq => ?_) (fun hq => ?_)
        · replace hf := jx_pos hq hf
          have he := jx_eq hf
          subst he
          have he : _ = k4 := jx_eq hgk4
          subst he
          exact hXk4 _ _ _ hP hD hS (lv_sub hl [1] rfl)
        · replace hf := jx_neg hq hf
          refine lv_aload_n hx hb dX1_fewestToLeave_32 rfl (lv_at hl 0 rfl) ?_
          refine va_get (D := D) (ci := 1) (v := .ref (a 14)) (C := RX1) (T := TX1) (N := 4) hx hb hts iw_X1_fewestToLeave_X1 hown hK hP 0 rfl rfl 1 (by decide) (hts (.fieldLink RX1 9 "PassedDuties$Clashes" "bySet" "[J") (by decide +kernel)) (fun _ h9 => h9) rfl dX1_fewestToLeave_33 ?_
          refine lv_aload_n hx hb dX1_fewestToLeave_36 rfl (lv_at hl 0 rfl) ?_
          refine va_get (D := D) (ci := 1) (v := .ref (a 5)) (C := RX1) (T := TX1) (N := 4) hx hb hts iw_X1_fewestToLeave_X1 hown hK hP 0 rfl rfl 0 (by decide) (hts (.fieldLink RX1 22 "PassedDuties$Clashes" "parts" "LPassedDuties$Parts;") (by decide +kernel)) (fun _ h9 => h9) rfl dX1_fewestToLeave_37 ?_
          refine va_getN (D := D) (ci := 3) (v := .int tr) (C := RX3) (T := TX3) (N := 8) hx hb hts iw_X1_fewestToLeave_X3 hown hK hP 3 rfl rfl 5 (by decide) (va_Nw.use rfl (hN (.fieldLinkNest "PassedDuties$Clashes" 52 "PassedDuties$Parts" "there" "I" "PassedDuties") (by decide +kernel))) (fun _ h9 => h9) rfl dX1_fewestToLeave_40 ?_
          refine lv_iload_n hx hb dX1_fewestToLeave_43 rfl (lv_at hl 2 rfl) ?_
          refine lv_iconst (v := -1) hx hb dX1_fewestToLeave_44 (by decide) ?_
          refine lv_ixor hx hb dX1_fewestToLeave_45 ?_
          refine lv_iand hx hb dX1_fewestToLeave_46 ?_
          obtain ⟨hi, hf⟩ := jx_gs hf
          refine va_lald hx hb hK hP 1 1 rfl rfl (jx_ip hi) dX1_fewestToLeave_47 ?_
          clear hi
          refine lv_lconst (v := 0) hx hb dX1_fewestToLeave_48 (by decide) ?_
          refine W.lcmp hx hb dX1_fewestToLeave_49 ?_
          refine W.eq (g2 := F0 m 50 ls [.int (lg_cmp (r2.1 ((tr &&& (s3.2 ^^^ (-1 : Int32)))).toNatClampNeg) (0 : Int64))]) rfl ?_
          obtain ⟨j6, hf, hkj6⟩ := jx_bs hf
          have hJj6 : ∀ (H : Heap) (locs : List Loc) (ls : Array Slot), va_P D vwCl (wCl a cI cL un ow ki th cm tr tl ch r2.1 r2.2.1 r2.2.2) H → va_D A (wCl a cI cL un ow ki th cm tr tl ch r2.1 r2.2.1 r2.2.2) → va_S A s.heap H locs → lv_has ls 3 [(0, .ref (a 13)), (1, .int j6), (2, .int s3.2)] → jx_Wi p l e wsX1_fewestToLeave ({ frames := 4, cells := 0, slots := 0, locals := 87 }) s m [.ref (a 13)] below meth c D [(cI, .int), (cL, .long)] (res.1) (wCl a cI cL un ow ki th cm tr tl ch res.2.1 res.2.2.1 res.2.2.2) A H locs (F0 m 64 ls []) := by
            clear hf hP hD hS hl
            intro H locs ls hP hD hS hl
            have hf := hkj6
            refine lv_iinc (v := (s3.2 + (1 : Int32))) (lv' := [(2, .int (s3.2 + (1 : Int32))), (0, .ref (a 13)), (1, .int j6)]) hx hb dX1_fewestToLeave_64 hl (k := 2) rfl rfl (by decide) rfl (fun ls hl => ?_)
            refine lv_goto (tgt := 25) hx hb dX1_fewestToLeave_67 (by decide) ?_
            have he := jx_eq hf
            subst he
            exact ihk4 (j6, (s3.2 + (1 : Int32))) _ _ _ hgk4 hP hD hS (lv_sub hl [1, 2, 0] rfl)
          refine lv_if_ne (tgt := 64) hx hb dX1_fewestToLeave_50 (by decide) (fun hq => ?_) (fun hq => ?_)
          · replace hf := jx_pos hq hf
            have he := jx_eq hf
            subst he
            exact hJj6 _ _ _ hP hD hS (lv_sub hl [0, 1, 2] rfl)
          · replace hf := jx_negn hq hf
            refine lv_aload_n hx hb dX1_fewestToLeave_53 rfl (lv_at hl 0 rfl) ?_
            refine lv_iload_n hx hb dX1_fewestToLeave_54 rfl (lv_at hl 2 rfl) ?_
            refine lv_iload_n hx hb dX1_fewestToLeave_55 rfl (lv_at hl 1 rfl) ?_
            obtain ⟨r7, hc, hf⟩ := jx_bs hf
            refine jx_ki (wr := []) (ws2 := (wCl a cI cL un ow ki th cm tr tl ch r2.1 r2.2.1 r2.2.2)) (jx_runV (As := [.int s3.2, .int s3.1]) (rest := []) ⟨hx, hb, hml, hown, hts⟩ (c_X1_isFewer l D a cI cL un ow ki th cm tr tl ch r2.1 r2.2.1 r2.2.2 s3.2 s3.1 r7 hc _) (cwV 2 hts gX1_fewestToLeave_X1_isFewer rfl rfl rfl (by decide +kernel) ⟨Nat.le_of_ble_eq_true rfl, Nat.le_of_ble_eq_true rfl⟩) hK hN hP hD [0, 1, 2, 3, 4, 5, 6, 7, 8] rfl (by decide) 0 1 rfl rfl rfl hl.1 rfl (Nat.le_of_ble_eq_true rfl) dX1_fewestToLeave_56 ⟨Nat.le_of_ble_eq_true rfl, Nat.le_of_ble_eq_true rfl⟩) hP hD hS hA [0, 1, 2, 3, 4, 5, 6, 7, 8] [] [0, 1, 2, 3, 4, 5, 6, 7, 8] rfl rfl (by decide) (by decide) rfl (by decide) (fun H locs hP hD hS => ?_)
            clear hc
            refine lv_if_eq (tgt := 64) hx hb dX1_fewestToLeave_59 (by decide) (fun hq => ?_) (fun hq => ?_)
            · replace hf := jx_pos hq hf
              have he := jx_eq hf
              subst he
              exact hJj6 _ _ _ hP hD hS (lv_sub hl [0, 1, 2] rfl)
            · replace hf := jx_neg hq hf
              refine lv_iload_n hx hb dX1_fewestToLeave_62 rfl (lv_at hl 2 rfl) ?_
              refine lv_istore_n (lv' := [(1, .int s3.2), (0, .ref (a 13)), (2, .int s3.2)]) hx hb dX1_fewestToLeave_63 rfl hl (by decide) rfl (fun ls hl => ?_)
              have he := jx_eq hf
              subst he
              exact hJj6 _ _ _ hP hD hS (lv_sub hl [1, 0, 2] rfl)
    exact hLk4 jx_F (tr, (0 : Int32)) _ _ _ hf hP hD hS (lv_sub hl [2, 1, 0] rfl)
  · replace hf := jx_negn hq hf
    refine lv_iconst (v := 0) hx hb dX1_fewestToLeave_9 (by decide) ?_
    have he := jx_eq hf
    subst he
    exact jx_reti hx hb hr hlocks rfl hK hP hD hS dX1_fewestToLeave_10
theorem iw_X1_partsNow_X1 : ∀ w ∈ wsX10, w ∈ wsX1_partsNow := by decide +kernel
theorem iw_X1_partsNow_X3 : ∀ w ∈ wsX30, w ∈ wsX1_partsNow := by decide +kernel
set_option maxHeartbeats 4000000 in
set_option maxRecDepth 100000 in
theorem c_X1_partsNow (l : Launch) (D : va_G) (a : Nat → Nat) (cI cL : ClassId) (un : (Nat → Int32)) (ow : (Nat → Int64)) (ki : (Nat → Int32)) (th : (Nat → Int64)) (cm : (Nat → Int64)) (tr : Int32) (tl : Int32) (ch : Int32) (bz : (Nat → Int64)) (rw : (Nat → Int64)) (kf : Int32) (res : Int32) (hf : pf_X1_partsNow cm = some res) : jMi l yX1_partsNow wsX1_partsNow ({ frames := 2, cells := 0, slots := 0, locals := 43 }) D [(cI, .int), (cL, .long)] [.ref (a 13)] (wCl a cI cL un ow ki th cm tr tl ch bz rw kf) res (wCl a cI cL un ow ki th cm tr tl ch bz rw kf) := by
  intro sz
  refine Met.ofW (cc := cX1_partsNow) (maxL := 3) (ret := (some .int)) (by decide) rfl ?_
  intro p e s m args below meth c s₁ B hml hv
  obtain ⟨rfl, hsz, hP, hK, hD0, hN⟩ := hv
  have hx := B.exec
  have hb := B.bytes
  have hr := B.returns
  have hts := atoms_spec (ws := wsX1_partsNow) B.pre
  have hown : s.vm.findClass RX1 = some m.cls := findClass_of_methodNamed B.named
  have hlocks := B.notSynchronized
  subst hsz
  have hD := hD0.self (sz := s.heap.size)
  generalize hAe : va_A (wCl a cI cL un ow ki th cm tr tl ch bz rw kf) s.heap.size = A at hD ⊢
  have hA : ∀ q : Nat, s.heap.size ≤ q → A q := fun q h => by rw [← hAe]; exact Or.inr h
  have hS : va_S A s.heap s.heap [] := va_S.rf
  have hl := lv_entry ([.ref (a 13)]) (n := 3) (Nat.le_of_ble_eq_true rfl)
  rw [lg_entry_eq]
  generalize (lg_sl ([.ref (a 13)]) ++ List.replicate (3 - (lg_sl ([.ref (a 13)])).length) Slot.unset).toArray = ls at hl ⊢
  have hl : lv_has ls 3 [(0, .ref (a 13))] := hl
  have hf : pf_X1_partsNow cm = some res := hf
  refine lv_iconst (v := 0) hx hb dX1_partsNow_0 (by decide) ?_
  refine lv_istore_n (lv' := [(1, .int (0 : Int32)), (0, .ref (a 13))]) hx hb dX1_partsNow_1 rfl hl (by decide) rfl (fun ls hl => ?_)
  refine lv_iconst (v := 0) hx hb dX1_partsNow_2 (by decide) ?_
  refine lv_istore_n (lv' := [(2, .int (0 : Int32)), (1, .int (0 : Int32)), (0, .ref (a 13))]) hx hb dX1_partsNow_3 rfl hl (by decide) rfl (fun ls hl => ?_)
  obtain ⟨k2, hf, hkk2⟩ := jx_bs hf
  have hXk2 : ∀ (H : Heap) (locs : List Loc) (ls : Array Slot), va_P D vwCl (wCl a cI cL un ow ki th cm tr tl ch bz rw kf) H → va_D A (wCl a cI cL un ow ki th cm tr tl ch bz rw kf) → va_S A s.heap H locs → lv_has ls 3 [(1, .int k2)] → jx_Wi p l e wsX1_partsNow ({ frames := 2, cells := 0, slots := 0, locals := 43 }) s m [.ref (a 13)] below meth c D [(cI, .int), (cL, .long)] res (wCl a cI cL un ow ki th cm tr tl ch bz rw kf) A H locs (F0 m 39 ls []) := by
    clear hf hP hD hS hl
    intro H locs ls hP hD hS hl
    have hf := hkk2
    refine lv_iload_n hx hb dX1_partsNow_39 rfl (lv_at hl 0 rfl) ?_
    have he := jx_eq hf
    subst he
    exact jx_reti hx hb hr hlocks rfl hK hP hD hS dX1_partsNow_40
  have hLk2 : ∀ (n : Nat) (s1 : (Int32 × Int32)) (H : Heap) (locs : List Loc) (ls : Array Slot), jx_iter (pf_X1_partsNow_s1 cm) n s1 = some k2 → va_P D vwCl (wCl a cI cL un ow ki th cm tr tl ch bz rw kf) H → va_D A (wCl a cI cL un ow ki th cm tr tl ch bz rw kf) → va_S A s.heap H locs → lv_has ls 3 [(0, .ref (a 13)), (1, .int s1.1), (2, .int s1.2)] → jx_Wi p l e wsX1_partsNow ({ frames := 2, cells := 0, slots := 0, locals := 43 }) s m [.ref (a 13)] below meth c D [(cI, .int), (cL, .long)] res (wCl a cI cL un ow ki th cm tr tl ch bz rw kf) A H locs (F0 m 4 ls []) := by
    clear hf hP hD hS hl
    intro n
    induction n with
    | zero => intro s1 _ _ _ hf; cases hf
    | succ n ihk2 =>
      intro s1 H locs ls hf hP hD hS hl
      obtain ⟨q3, hf, hgk2⟩ := jx_bs hf
      refine lv_iload_n hx hb dX1_partsNow_4 rfl (lv_at hl 2 rfl) ?_
      refine lv_bipush (v := 8) hx hb dX1_partsNow_5 (by decide) ?_
      refine lv_icmp_ge (tgt := 39) hx hb dX1_partsNow_7 (by decide) (fun hq => ?_) (fun hq => ?_)
      · replace hf := jx_pos hq hf
        have he := jx_eq hf
        subst he
        have he : _ = k2 := jx_eq hgk2
        subst he
        exact hXk2 _ _ _ hP hD hS (lv_sub hl [1] rfl)
      · replace hf := jx_neg hq hf
        refine lv_iload_n hx hb dX1_partsNow_10 rfl (lv_at hl 1 rfl) ?_
        refine lv_aload_n hx hb dX1_partsNow_11 rfl (lv_at hl 0 rfl) ?_
        refine va_get (D := D) (ci := 1) (v := .ref (a 5)) (C := RX1) (T := TX1) (N := 4) hx hb hts iw_X1_partsNow_X1 hown hK hP 0 rfl rfl 0 (by decide) (hts (.fieldLink RX1 22 "PassedDuties$Clashes" "parts" "LPassedDuties$Parts;") (by decide +kernel)) (fun _ h9 => h9) rfl dX1_partsNow_12 ?_
        refine va_getN (D := D) (ci := 3) (v := .ref (a 10)) (C := RX3) (T := TX3) (N := 8) hx hb hts iw_X1_partsNow_X3 hown hK hP 3 rfl rfl 4 (by decide) (va_Nw.use rfl (hN (.fieldLinkNest "PassedDuties$Clashes" 26 "PassedDuties$Parts" "come" "[J" "PassedDuties") (by decide +kernel))) (fun _ h9 => h9) rfl dX1_partsNow_15 ?_
        refine lv_iload_n hx hb dX1_partsNow_18 rfl (lv_at hl 2 rfl) ?_
        obtain ⟨hi, hf⟩ := jx_gs hf
        refine va_lald hx hb hK hP 8 1 rfl rfl (jx_ip hi) dX1_partsNow_19 ?_
        clear hi
        obtain ⟨r4, hc, hf⟩ := jx_bs hf
        refine jx_ki (wr := [((a 13), .inr (1, [.ref (a 5), .ref (a 14), .ref (a 15), .int kf])), ((a 14), .inl (cL, 256, .inr (.inl bz))), ((a 15), .inl (cL, 8, .inr (.inl rw))), ((a 5), .inr (3, [.ref (a 6), .ref (a 7), .ref (a 8), .ref (a 9), .ref (a 10), .int tr, .int tl, .int ch])), ((a 6), .inl (cI, 8, .inl un)), ((a 7), .inl (cL, 8, .inr (.inl ow))), ((a 8), .inl (cI, 64, .inl ki)), ((a 9), .inl (cL, 64, .inr (.inl th))), ((a 10), .inl (cL, 8, .inr (.inl cm)))]) (ws2 := (wCl a cI cL un ow ki th cm tr tl ch bz rw kf)) (jx_runS (As := [.long (cm (s1.2).toNatClampNeg)]) (rest := [.int s1.1]) ⟨hx, hb, hml, hown, hts⟩ (c_X4_meeting l D a cI cL (cm (s1.2).toNatClampNeg) r4 hc _) (va_cwS 1 hts gX1_partsNow_X4_meeting rfl rfl rfl (by decide +kernel) ⟨Nat.le_of_ble_eq_true rfl, Nat.le_of_ble_eq_true rfl⟩) hK hN hP hD [] rfl (by decide) rfl hl.1 rfl (Nat.le_of_ble_eq_true rfl) dX1_partsNow_20 ⟨Nat.le_of_ble_eq_true rfl, Nat.le_of_ble_eq_true rfl⟩) hP hD hS hA [] [0, 1, 2, 3, 4, 5, 6, 7, 8] [0, 1, 2, 3, 4, 5, 6, 7, 8] rfl rfl (by decide) (by decide) rfl (by decide) (fun H locs hP hD hS => ?_)
        clear hc
        obtain ⟨j5, hf, hkj5⟩ := jx_bs hf
        have hJj5 : ∀ (H : Heap) (locs : List Loc) (ls : Array Slot), va_P D vwCl (wCl a cI cL un ow ki th cm tr tl ch bz rw kf) H → va_D A (wCl a cI cL un ow ki th cm tr tl ch bz rw kf) → va_S A s.heap H locs → lv_has ls 3 [(0, .ref (a 13)), (2, .int s1.2)] → jx_Wi p l e wsX1_partsNow ({ frames := 2, cells := 0, slots := 0, locals := 43 }) s m [.ref (a 13)] below meth c D [(cI, .int), (cL, .long)] res (wCl a cI cL un ow ki th cm tr tl ch bz rw kf) A H locs (F0 m 31 ls [.int j5, .int s1.1]) := by
          clear hf hP hD hS hl
          intro H locs ls hP hD hS hl
          have hf := hkj5
          refine lv_iadd hx hb dX1_partsNow_31 ?_
          refine lv_istore_n (lv' := [(1, .int (s1.1 + j5)), (0, .ref (a 13)), (2, .int s1.2)]) hx hb dX1_partsNow_32 rfl hl (by decide) rfl (fun ls hl => ?_)
          refine lv_iinc (v := (s1.2 + (1 : Int32))) (lv' := [(2, .int (s1.2 + (1 : Int32))), (1, .int (s1.1 + j5)), (0, .ref (a 13))]) hx hb dX1_partsNow_33 hl (k := 2) rfl rfl (by decide) rfl (fun ls hl => ?_)
          refine lv_goto (tgt := 4) hx hb dX1_partsNow_36 (by decide) ?_
          have he := jx_eq hf
          subst he
          exact ihk2 ((s1.1 + j5), (s1.2 + (1 : Int32))) _ _ _ hgk2 hP hD hS (lv_sub hl [2, 1, 0] rfl)
        refine lv_if_eq (tgt := 30) hx hb dX1_partsNow_23 (by decide) (fun hq => ?_) (fun hq => ?_)
        · replace hf := jx_pos hq hf
          refine lv_iconst (v := 0) hx hb dX1_partsNow_30 (by decide) ?_
          have he := jx_eq hf
          subst he
          exact hJj5 _ _ _ hP hD hS (lv_sub hl [0, 2] rfl)
        · replace hf := jx_neg hq hf
          refine lv_iconst (v := 1) hx hb dX1_partsNow_26 (by decide) ?_
          refine lv_goto (tgt := 31) hx hb dX1_partsNow_27 (by decide) ?_
          have he := jx_eq hf
          subst he
          exact hJj5 _ _ _ hP hD hS (lv_sub hl [0, 2] rfl)
  exact hLk2 jx_F ((0 : Int32), (0 : Int32)) _ _ _ hf hP hD hS (lv_sub hl [2, 1, 0] rfl)
