set_option maxHeartbeats 4000000 in
set_option maxRecDepth 100000 in
theorem c_X2_itemOf (l : Launch) (D : va_G) (a : Nat → Nat) (cI cL : ClassId) (p0 : Int32) (res : Int32) (hf : pf_X2_itemOf p0 = some res) : jMi l yX2_itemOf wsX2_itemOf ({ frames := 0, cells := 0, slots := 0, locals := 0 }) D [(cI, .int), (cL, .long)] [.int p0] (wE a cI cL) res (wE a cI cL) := by
  intro sz
  refine Met.ofW (cc := cX2_itemOf) (maxL := 1) (ret := (some .int)) (by decide) rfl ?_
  intro p e s m args below meth c s₁ B hml hv
  obtain ⟨rfl, hsz, hP, hK, hD0, hN⟩ := hv
  have hx := B.exec
  have hb := B.bytes
  have hr := B.returns
  have hts := atoms_spec (ws := wsX2_itemOf) B.pre
  have hown : s.vm.findClass RX2 = some m.cls := findClass_of_methodNamed B.named
  have hlocks := B.notSynchronized
  subst hsz
  have hD := hD0.self (sz := s.heap.size)
  generalize hAe : va_A (wE a cI cL) s.heap.size = A at hD ⊢
  have hA : ∀ q : Nat, s.heap.size ≤ q → A q := fun q h => by rw [← hAe]; exact Or.inr h
  have hS : va_S A s.heap s.heap [] := va_S.rf
  have hl := lv_entry ([.int p0]) (n := 1) (Nat.le_of_ble_eq_true rfl)
  rw [lg_entry_eq]
  generalize (lg_sl ([.int p0]) ++ List.replicate (1 - (lg_sl ([.int p0])).length) Slot.unset).toArray = ls at hl ⊢
  have hl : lv_has ls 1 [(0, .int p0)] := hl
  have hf : pf_X2_itemOf p0 = some res := hf
  refine lv_iload_n hx hb dX2_itemOf_0 rfl (lv_at hl 0 rfl) ?_
  refine lv_bipush (v := 112) hx hb dX2_itemOf_1 (by decide) ?_
  refine lv_icmp_lt (tgt := 17) hx hb dX2_itemOf_3 (by decide) (fun hq => ?_) (fun hq => ?_)
  · replace hf := jx_pos hq hf
    refine lv_iload_n hx hb dX2_itemOf_17 rfl (lv_at hl 0 rfl) ?_
    refine lv_bipush (v := 80) hx hb dX2_itemOf_18 (by decide) ?_
    refine lv_icmp_lt (tgt := 39) hx hb dX2_itemOf_20 (by decide) (fun hq => ?_) (fun hq => ?_)
    · replace hf := jx_pos hq hf
      refine lv_iconst (v := -1) hx hb dX2_itemOf_39 (by decide) ?_
      have he := jx_eq hf
      subst he
      exact jx_reti hx hb hr hlocks rfl hK hP hD hS dX2_itemOf_40
    · replace hf := jx_neg hq hf
      refine lv_iload_n hx hb dX2_itemOf_23 rfl (lv_at hl 0 rfl) ?_
      refine lv_bipush (v := 85) hx hb dX2_itemOf_24 (by decide) ?_
      refine lv_icmp_gt (tgt := 39) hx hb dX2_itemOf_26 (by decide) (fun hq => ?_) (fun hq => ?_)
      · replace hf := jx_pos hq hf
        refine lv_iconst (v := -1) hx hb dX2_itemOf_39 (by decide) ?_
        have he := jx_eq hf
        subst he
        exact jx_reti hx hb hr hlocks rfl hK hP hD hS dX2_itemOf_40
      · replace hf := jx_neg hq hf
        refine lv_iload_n hx hb dX2_itemOf_29 rfl (lv_at hl 0 rfl) ?_
        refine lv_bipush (v := 80) hx hb dX2_itemOf_30 (by decide) ?_
        refine lv_isub hx hb dX2_itemOf_32 ?_
        refine lv_bipush (v := 6) hx hb dX2_itemOf_33 (by decide) ?_
        refine lv_iadd hx hb dX2_itemOf_35 ?_
        refine lv_goto (tgt := 40) hx hb dX2_itemOf_36 (by decide) ?_
        have he := jx_eq hf
        subst he
        exact jx_reti hx hb hr hlocks rfl hK hP hD hS dX2_itemOf_40
  · replace hf := jx_neg hq hf
    refine lv_iload_n hx hb dX2_itemOf_6 rfl (lv_at hl 0 rfl) ?_
    refine lv_bipush (v := 117) hx hb dX2_itemOf_7 (by decide) ?_
    refine lv_icmp_gt (tgt := 17) hx hb dX2_itemOf_9 (by decide) (fun hq => ?_) (fun hq => ?_)
    · replace hf := jx_pos hq hf
      refine lv_iload_n hx hb dX2_itemOf_17 rfl (lv_at hl 0 rfl) ?_
      refine lv_bipush (v := 80) hx hb dX2_itemOf_18 (by decide) ?_
      refine lv_icmp_lt (tgt := 39) hx hb dX2_itemOf_20 (by decide) (fun hq => ?_) (fun hq => ?_)
      · replace hf := jx_pos hq hf
        refine lv_iconst (v := -1) hx hb dX2_itemOf_39 (by decide) ?_
        have he := jx_eq hf
        subst he
        exact jx_reti hx hb hr hlocks rfl hK hP hD hS dX2_itemOf_40
      · replace hf := jx_neg hq hf
        refine lv_iload_n hx hb dX2_itemOf_23 rfl (lv_at hl 0 rfl) ?_
        refine lv_bipush (v := 85) hx hb dX2_itemOf_24 (by decide) ?_
        refine lv_icmp_gt (tgt := 39) hx hb dX2_itemOf_26 (by decide) (fun hq => ?_) (fun hq => ?_)
        · replace hf := jx_pos hq hf
          refine lv_iconst (v := -1) hx hb dX2_itemOf_39 (by decide) ?_
          have he := jx_eq hf
          subst he
          exact jx_reti hx hb hr hlocks rfl hK hP hD hS dX2_itemOf_40
        · replace hf := jx_neg hq hf
          refine lv_iload_n hx hb dX2_itemOf_29 rfl (lv_at hl 0 rfl) ?_
          refine lv_bipush (v := 80) hx hb dX2_itemOf_30 (by decide) ?_
          refine lv_isub hx hb dX2_itemOf_32 ?_
          refine lv_bipush (v := 6) hx hb dX2_itemOf_33 (by decide) ?_
          refine lv_iadd hx hb dX2_itemOf_35 ?_
          refine lv_goto (tgt := 40) hx hb dX2_itemOf_36 (by decide) ?_
          have he := jx_eq hf
          subst he
          exact jx_reti hx hb hr hlocks rfl hK hP hD hS dX2_itemOf_40
    · replace hf := jx_neg hq hf
      refine lv_iload_n hx hb dX2_itemOf_12 rfl (lv_at hl 0 rfl) ?_
      refine lv_bipush (v := 112) hx hb dX2_itemOf_13 (by decide) ?_
      refine lv_isub hx hb dX2_itemOf_15 ?_
      have he := jx_eq hf
      subst he
      exact jx_reti hx hb hr hlocks rfl hK hP hD hS dX2_itemOf_16
set_option maxHeartbeats 4000000 in
set_option maxRecDepth 100000 in
theorem c_X2_reachOf (l : Launch) (D : va_G) (a : Nat → Nat) (cI cL : ClassId) (p0 : Int32) (res : Int32) (hf : pf_X2_reachOf p0 = some res) : jMi l yX2_reachOf wsX2_reachOf ({ frames := 0, cells := 0, slots := 0, locals := 0 }) D [(cI, .int), (cL, .long)] [.int p0] (wE a cI cL) res (wE a cI cL) := by
  intro sz
  refine Met.ofW (cc := cX2_reachOf) (maxL := 1) (ret := (some .int)) (by decide) rfl ?_
  intro p e s m args below meth c s₁ B hml hv
  obtain ⟨rfl, hsz, hP, hK, hD0, hN⟩ := hv
  have hx := B.exec
  have hb := B.bytes
  have hr := B.returns
  have hts := atoms_spec (ws := wsX2_reachOf) B.pre
  have hown : s.vm.findClass RX2 = some m.cls := findClass_of_methodNamed B.named
  have hlocks := B.notSynchronized
  subst hsz
  have hD := hD0.self (sz := s.heap.size)
  generalize hAe : va_A (wE a cI cL) s.heap.size = A at hD ⊢
  have hA : ∀ q : Nat, s.heap.size ≤ q → A q := fun q h => by rw [← hAe]; exact Or.inr h
  have hS : va_S A s.heap s.heap [] := va_S.rf
  have hl := lv_entry ([.int p0]) (n := 1) (Nat.le_of_ble_eq_true rfl)
  rw [lg_entry_eq]
  generalize (lg_sl ([.int p0]) ++ List.replicate (1 - (lg_sl ([.int p0])).length) Slot.unset).toArray = ls at hl ⊢
  have hl : lv_has ls 1 [(0, .int p0)] := hl
  have hf : pf_X2_reachOf p0 = some res := hf
  refine lv_iload_n hx hb dX2_reachOf_0 rfl (lv_at hl 0 rfl) ?_
  refine lv_bipush (v := 43) hx hb dX2_reachOf_1 (by decide) ?_
  refine lv_icmp_ne (tgt := 8) hx hb dX2_reachOf_3 (by decide) (fun hq => ?_) (fun hq => ?_)
  · replace hf := jx_pos hq hf
    refine lv_iload_n hx hb dX2_reachOf_8 rfl (lv_at hl 0 rfl) ?_
    refine lv_bipush (v := 42) hx hb dX2_reachOf_9 (by decide) ?_
    refine lv_icmp_ne (tgt := 18) hx hb dX2_reachOf_11 (by decide) (fun hq => ?_) (fun hq => ?_)
    · replace hf := jx_pos hq hf
      refine lv_iconst (v := 1) hx hb dX2_reachOf_18 (by decide) ?_
      have he := jx_eq hf
      subst he
      exact jx_reti hx hb hr hlocks rfl hK hP hD hS dX2_reachOf_19
    · replace hf := jx_negn hq hf
      refine lv_iconst (v := 3) hx hb dX2_reachOf_14 (by decide) ?_
      refine lv_goto (tgt := 19) hx hb dX2_reachOf_15 (by decide) ?_
      have he := jx_eq hf
      subst he
      exact jx_reti hx hb hr hlocks rfl hK hP hD hS dX2_reachOf_19
  · replace hf := jx_negn hq hf
    refine lv_iconst (v := 2) hx hb dX2_reachOf_6 (by decide) ?_
    have he := jx_eq hf
    subst he
    exact jx_reti hx hb hr hlocks rfl hK hP hD hS dX2_reachOf_7
theorem iw_X2_firstFault_X2 : ∀ w ∈ wsX20, w ∈ wsX2_firstFault := by decide +kernel
set_option maxHeartbeats 4000000 in
set_option maxRecDepth 100000 in
theorem c_X2_firstFault (l : Launch) (D : va_G) (a : Nat → Nat) (cI cL : ClassId) (pl : Int32) (cd : (Nat → Int32)) (res : Int32) (hf : pf_X2_firstFault pl cd = some res) : jMi l yX2_firstFault wsX2_firstFault ({ frames := 1, cells := 0, slots := 0, locals := 22 }) D [(cI, .int), (cL, .long)] [.ref (a 1)] (wPg a cI cL pl cd) res (wPg a cI cL pl cd) := by
  intro sz
  refine Met.ofW (cc := cX2_firstFault) (maxL := 6) (ret := (some .int)) (by decide) rfl ?_
  intro p e s m args below meth c s₁ B hml hv
  obtain ⟨rfl, hsz, hP, hK, hD0, hN⟩ := hv
  have hx := B.exec
  have hb := B.bytes
  have hr := B.returns
  have hts := atoms_spec (ws := wsX2_firstFault) B.pre
  have hown : s.vm.findClass RX2 = some m.cls := findClass_of_methodNamed B.named
  have hlocks := B.notSynchronized
  subst hsz
  have hD := hD0.self (sz := s.heap.size)
  generalize hAe : va_A (wPg a cI cL pl cd) s.heap.size = A at hD ⊢
  have hA : ∀ q : Nat, s.heap.size ≤ q → A q := fun q h => by rw [← hAe]; exact Or.inr h
  have hS : va_S A s.heap s.heap [] := va_S.rf
  have hl := lv_entry ([.ref (a 1)]) (n := 6) (Nat.le_of_ble_eq_true rfl)
  rw [lg_entry_eq]
  generalize (lg_sl ([.ref (a 1)]) ++ List.replicate (6 - (lg_sl ([.ref (a 1)])).length) Slot.unset).toArray = ls at hl ⊢
  have hl : lv_has ls 6 [(0, .ref (a 1))] := hl
  have hf : pf_X2_firstFault pl cd = some res := hf
  refine lv_iconst (v := 0) hx hb dX2_firstFault_0 (by decide) ?_
  refine lv_istore_n (lv' := [(1, .int (0 : Int32)), (0, .ref (a 1))]) hx hb dX2_firstFault_1 rfl hl (by decide) rfl (fun ls hl => ?_)
  refine lv_iconst (v := 0) hx hb dX2_firstFault_2 (by decide) ?_
  refine lv_istore_n (lv' := [(2, .int (0 : Int32)), (1, .int (0 : Int32)), (0, .ref (a 1))]) hx hb dX2_firstFault_3 rfl hl (by decide) rfl (fun ls hl => ?_)
  refine lv_iconst (v := 0) hx hb dX2_firstFault_4 (by decide) ?_
  refine lv_istore_n (lv' := [(3, .int (0 : Int32)), (2, .int (0 : Int32)), (1, .int (0 : Int32)), (0, .ref (a 1))]) hx hb dX2_firstFault_5 rfl hl (by decide) rfl (fun ls hl => ?_)
  obtain ⟨k2, hf, hkk2⟩ := jx_bs hf
  have hXk2 : ∀ (xk2 : Unit), k2 = Sum.inl xk2 → ∀ (H : Heap) (locs : List Loc) (ls : Array Slot), va_P D vwCl (wPg a cI cL pl cd) H → va_D A (wPg a cI cL pl cd) → va_S A s.heap H locs → lv_has ls 6 [(0, .ref (a 1))] → jx_Wi p l e wsX2_firstFault ({ frames := 1, cells := 0, slots := 0, locals := 22 }) s m [.ref (a 1)] below meth c D [(cI, .int), (cL, .long)] res (wPg a cI cL pl cd) A H locs (F0 m 113 ls []) := by
    clear hf hP hD hS hl
    intro xk2 he H locs ls hP hD hS hl
    subst he
    have hf := hkk2
    refine lv_aload_n hx hb dX2_firstFault_113 rfl (lv_at hl 0 rfl) ?_
    refine va_get (D := D) (ci := 2) (v := .int pl) (C := RX2) (T := TX2) (N := 2) hx hb hts iw_X2_firstFault_X2 hown hK hP 0 rfl rfl 1 (by decide) (hts (.fieldLink RX2 15 "PassedDuties$Page" "length" "I") (by decide +kernel)) (fun _ h9 => h9) rfl dX2_firstFault_114 ?_
    have he := jx_eq hf
    subst he
    exact jx_reti hx hb hr hlocks rfl hK hP hD hS dX2_firstFault_117
  have hLk2 : ∀ (n : Nat) (s1 : (Int32 × Int32 × Int32)) (H : Heap) (locs : List Loc) (ls : Array Slot), jx_iter (pf_X2_firstFault_s1 pl cd) n s1 = some k2 → va_P D vwCl (wPg a cI cL pl cd) H → va_D A (wPg a cI cL pl cd) → va_S A s.heap H locs → lv_has ls 6 [(0, .ref (a 1)), (1, .int s1.1), (2, .int s1.2.1), (3, .int s1.2.2)] → jx_Wi p l e wsX2_firstFault ({ frames := 1, cells := 0, slots := 0, locals := 22 }) s m [.ref (a 1)] below meth c D [(cI, .int), (cL, .long)] res (wPg a cI cL pl cd) A H locs (F0 m 6 ls []) := by
    clear hf hP hD hS hl
    intro n
    induction n with
    | zero => intro s1 _ _ _ hf; cases hf
    | succ n ihk2 =>
      intro s1 H locs ls hf hP hD hS hl
      obtain ⟨q3, hf, hgk2⟩ := jx_bs hf
      refine lv_iload_n hx hb dX2_firstFault_6 rfl (lv_at hl 3 rfl) ?_
      refine lv_aload_n hx hb dX2_firstFault_7 rfl (lv_at hl 0 rfl) ?_
      refine va_get (D := D) (ci := 2) (v := .int pl) (C := RX2) (T := TX2) (N := 2) hx hb hts iw_X2_firstFault_X2 hown hK hP 0 rfl rfl 1 (by decide) (hts (.fieldLink RX2 15 "PassedDuties$Page" "length" "I") (by decide +kernel)) (fun _ h9 => h9) rfl dX2_firstFault_8 ?_
      refine lv_icmp_ge (tgt := 113) hx hb dX2_firstFault_11 (by decide) (fun hq => ?_) (fun hq => ?_)
      · replace hf := jx_pos hq hf
        have he := jx_eq hf
        subst he
        have he : Sum.inl _ = k2 := jx_eq hgk2
        subst he
        exact hXk2 _ rfl _ _ _ hP hD hS (lv_sub hl [0] rfl)
      · replace hf := jx_neg hq hf
        refine lv_aload_n hx hb dX2_firstFault_14 rfl (lv_at hl 0 rfl) ?_
        refine va_get (D := D) (ci := 2) (v := .ref (a 2)) (C := RX2) (T := TX2) (N := 2) hx hb hts iw_X2_firstFault_X2 hown hK hP 0 rfl rfl 0 (by decide) (hts (.fieldLink RX2 9 "PassedDuties$Page" "codes" "[I") (by decide +kernel)) (fun _ h9 => h9) rfl dX2_firstFault_15 ?_
        refine lv_iload_n hx hb dX2_firstFault_18 rfl (lv_at hl 3 rfl) ?_
        obtain ⟨hi, hf⟩ := jx_gs hf
        refine va_iald hx hb hK hP 1 0 rfl rfl (jx_ip hi) dX2_firstFault_19 ?_
        clear hi
        obtain ⟨r4, hc, hf⟩ := jx_bs hf
        refine jx_ki (wr := [((a 1), .inr (2, [.ref (a 2), .int pl])), ((a 2), .inl (cI, 24, .inl cd))]) (ws2 := (wPg a cI cL pl cd)) (jx_runS (As := [.int (cd (s1.2.2).toNatClampNeg)]) (rest := []) ⟨hx, hb, hml, hown, hts⟩ (c_X2_itemOf l D a cI cL (cd (s1.2.2).toNatClampNeg) r4 hc _) (va_cwS 1 hts gX2_firstFault_X2_itemOf rfl rfl rfl (by decide +kernel) ⟨Nat.le_of_ble_eq_true rfl, Nat.le_of_ble_eq_true rfl⟩) hK hN hP hD [] rfl (by decide) rfl hl.1 rfl (Nat.le_of_ble_eq_true rfl) dX2_firstFault_20 ⟨Nat.le_of_ble_eq_true rfl, Nat.le_of_ble_eq_true rfl⟩) hP hD hS hA [] [0, 1] [0, 1] rfl rfl (by decide) (by decide) rfl (by decide) (fun H locs hP hD hS => ?_)
        clear hc
        refine lv_istore (lv' := [(4, .int r4), (0, .ref (a 1)), (1, .int s1.1), (2, .int s1.2.1), (3, .int s1.2.2)]) hx hb dX2_firstFault_23 hl (by decide) rfl (fun ls hl => ?_)
        refine lv_iload hx hb dX2_firstFault_25 (lv_at hl 0 rfl) ?_
        refine lv_iconst (v := -1) hx hb dX2_firstFault_27 (by decide) ?_
        obtain ⟨j5, hf, hkj5⟩ := jx_bs hf
        have hJj5 : ∀ (H : Heap) (locs : List Loc) (ls : Array Slot), va_P D vwCl (wPg a cI cL pl cd) H → va_D A (wPg a cI cL pl cd) → va_S A s.heap H locs → lv_has ls 6 [(0, .ref (a 1)), (1, .int s1.1), (3, .int s1.2.2), (4, .int r4)] → jx_Wi p l e wsX2_firstFault ({ frames := 1, cells := 0, slots := 0, locals := 22 }) s m [.ref (a 1)] below meth c D [(cI, .int), (cL, .long)] res (wPg a cI cL pl cd) A H locs (F0 m 71 ls [.int j5]) := by
          clear hf hP hD hS hl
          intro H locs ls hP hD hS hl
          have hf := hkj5
          refine lv_istore (lv' := [(5, .int j5), (0, .ref (a 1)), (1, .int s1.1), (3, .int s1.2.2), (4, .int r4)]) hx hb dX2_firstFault_71 hl (by decide) rfl (fun ls hl => ?_)
          refine lv_iload hx hb dX2_firstFault_73 (lv_at hl 0 rfl) ?_
          refine lv_if_ne (tgt := 80) hx hb dX2_firstFault_75 (by decide) (fun hq => ?_) (fun hq => ?_)
          · replace hf := jx_pos hq hf
            refine lv_iload hx hb dX2_firstFault_80 (lv_at hl 4 rfl) ?_
            refine lv_iconst (v := -1) hx hb dX2_firstFault_82 (by decide) ?_
            obtain ⟨j8, hf, hkj8⟩ := jx_bs hf
            have hJj8 : ∀ (H : Heap) (locs : List Loc) (ls : Array Slot), va_P D vwCl (wPg a cI cL pl cd) H → va_D A (wPg a cI cL pl cd) → va_S A s.heap H locs → lv_has ls 6 [(0, .ref (a 1)), (1, .int s1.1), (3, .int s1.2.2), (4, .int r4)] → jx_Wi p l e wsX2_firstFault ({ frames := 1, cells := 0, slots := 0, locals := 22 }) s m [.ref (a 1)] below meth c D [(cI, .int), (cL, .long)] res (wPg a cI cL pl cd) A H locs (F0 m 91 ls [.int j8]) := by
              clear hf hP hD hS hl
              intro H locs ls hP hD hS hl
              have hf := hkj8
              refine lv_istore_n (lv' := [(2, .int j8), (0, .ref (a 1)), (1, .int s1.1), (3, .int s1.2.2), (4, .int r4)]) hx hb dX2_firstFault_91 rfl hl (by decide) rfl (fun ls hl => ?_)
              refine lv_iload_n hx hb dX2_firstFault_92 rfl (lv_at hl 2 rfl) ?_
              refine lv_iload_n hx hb dX2_firstFault_93 rfl (lv_at hl 0 rfl) ?_
              obtain ⟨j9, hf, hkj9⟩ := jx_bs hf
              have hJj9 : ∀ (H : Heap) (locs : List Loc) (ls : Array Slot), va_P D vwCl (wPg a cI cL pl cd) H → va_D A (wPg a cI cL pl cd) → va_S A s.heap H locs → lv_has ls 6 [(0, .ref (a 1)), (2, .int j8), (3, .int s1.2.2)] → jx_Wi p l e wsX2_firstFault ({ frames := 1, cells := 0, slots := 0, locals := 22 }) s m [.ref (a 1)] below meth c D [(cI, .int), (cL, .long)] res (wPg a cI cL pl cd) A H locs (F0 m 105 ls [.int j9, .int s1.1]) := by
                clear hf hP hD hS hl
                intro H locs ls hP hD hS hl
                have hf := hkj9
                refine lv_ior hx hb dX2_firstFault_105 ?_
                refine lv_istore_n (lv' := [(1, .int (s1.1 ||| j9)), (0, .ref (a 1)), (2, .int j8), (3, .int s1.2.2)]) hx hb dX2_firstFault_106 rfl hl (by decide) rfl (fun ls hl => ?_)
                refine lv_iinc (v := (s1.2.2 + (1 : Int32))) (lv' := [(3, .int (s1.2.2 + (1 : Int32))), (1, .int (s1.1 ||| j9)), (0, .ref (a 1)), (2, .int j8)]) hx hb dX2_firstFault_107 hl (k := 3) rfl rfl (by decide) rfl (fun ls hl => ?_)
                refine lv_goto (tgt := 6) hx hb dX2_firstFault_110 (by decide) ?_
                have he := jx_eq hf
                subst he
                exact ihk2 ((s1.1 ||| j9), j8, (s1.2.2 + (1 : Int32))) _ _ _ hgk2 hP hD hS (lv_sub hl [2, 1, 3, 0] rfl)
              refine lv_if_eq (tgt := 104) hx hb dX2_firstFault_94 (by decide) (fun hq => ?_) (fun hq => ?_)
              · replace hf := jx_pos hq hf
                refine lv_iconst (v := 0) hx hb dX2_firstFault_104 (by decide) ?_
                have he := jx_eq hf
                subst he
                exact hJj9 _ _ _ hP hD hS (lv_sub hl [1, 0, 3] rfl)
              · replace hf := jx_neg hq hf
                refine lv_iconst (v := 1) hx hb dX2_firstFault_97 (by decide) ?_
                refine lv_iload hx hb dX2_firstFault_98 (lv_at hl 4 rfl) ?_
                refine lv_ishl hx hb dX2_firstFault_100 ?_
                refine lv_goto (tgt := 105) hx hb dX2_firstFault_101 (by decide) ?_
                have he := jx_eq hf
                subst he
                exact hJj9 _ _ _ hP hD hS (lv_sub hl [1, 0, 3] rfl)
            refine lv_icmp_eq (tgt := 90) hx hb dX2_firstFault_83 (by decide) (fun hq => ?_) (fun hq => ?_)
            · replace hf := jx_pos hq hf
              refine lv_iconst (v := 0) hx hb dX2_firstFault_90 (by decide) ?_
              have he := jx_eq hf
              subst he
              exact hJj8 _ _ _ hP hD hS (lv_sub hl [1, 2, 3, 4] rfl)
            · replace hf := jx_neg hq hf
              refine lv_iconst (v := 1) hx hb dX2_firstFault_86 (by decide) ?_
              refine lv_goto (tgt := 91) hx hb dX2_firstFault_87 (by decide) ?_
              have he := jx_eq hf
              subst he
              exact hJj8 _ _ _ hP hD hS (lv_sub hl [1, 2, 3, 4] rfl)
          · replace hf := jx_negn hq hf
            refine lv_iload_n hx hb dX2_firstFault_78 rfl (lv_at hl 3 rfl) ?_
            have he := jx_eq hf
            subst he
            have he : Sum.inr _ = k2 := jx_eq hgk2
            subst he
            have hf := hkk2
            have he := jx_eq hf
            subst he
            exact jx_reti hx hb hr hlocks rfl hK hP hD hS dX2_firstFault_79
        refine lv_icmp_ne (tgt := 56) hx hb dX2_firstFault_28 (by decide) (fun hq => ?_) (fun hq => ?_)
        · replace hf := jx_pos hq hf
          refine lv_iload_n hx hb dX2_firstFault_56 rfl (lv_at hl 2 rfl) ?_
          refine lv_i2l (v := (s1.1).toInt64) hx hb dX2_firstFault_57 rfl ?_
          refine lv_iload hx hb dX2_firstFault_58 (lv_at hl 0 rfl) ?_
          obtain ⟨r6, hc, hf⟩ := jx_bs hf
          refine jx_ki (wr := [((a 1), .inr (2, [.ref (a 2), .int pl])), ((a 2), .inl (cI, 24, .inl cd))]) (ws2 := (wPg a cI cL pl cd)) (jx_runSN (As := [.long (s1.1).toInt64, .int r4]) (rest := []) ⟨hx, hb, hml, hown, hts⟩ (c_X6_isSet l D a cI cL (s1.1).toInt64 r4 r6 hc _) (va_cnB 2 hts gX2_firstFault_X6_isSet_n26 rfl rfl rfl (hN (.methodLinkNest "PassedDuties$Page" 26 yX6_isSet "PassedDuties") (by decide +kernel)) (hts (.initialized RX6) (by decide +kernel)) (by decide +kernel) ⟨Nat.le_of_ble_eq_true rfl, Nat.le_of_ble_eq_true rfl⟩) (hts (.static yX6_isSet) (by decide +kernel)) hK hN hP hD [] rfl (by decide) rfl hl.1 rfl (Nat.le_of_ble_eq_true rfl) dX2_firstFault_60 ⟨Nat.le_of_ble_eq_true rfl, Nat.le_of_ble_eq_true rfl⟩) hP hD hS hA [] [0, 1] [0, 1] rfl rfl (by decide) (by decide) rfl (by decide) (fun H locs hP hD hS => ?_)
          clear hc
          refine lv_if_ne (tgt := 70) hx hb dX2_firstFault_63 (by decide) (fun hq => ?_) (fun hq => ?_)
          · replace hf := jx_pos hq hf
            refine lv_iconst (v := 0) hx hb dX2_firstFault_70 (by decide) ?_
            have he := jx_eq hf
            subst he
            exact hJj5 _ _ _ hP hD hS (lv_sub hl [1, 2, 4, 0] rfl)
          · replace hf := jx_negn hq hf
            refine lv_iconst (v := 1) hx hb dX2_firstFault_66 (by decide) ?_
            refine lv_goto (tgt := 71) hx hb dX2_firstFault_67 (by decide) ?_
            have he := jx_eq hf
            subst he
            exact hJj5 _ _ _ hP hD hS (lv_sub hl [1, 2, 4, 0] rfl)
        · replace hf := jx_negn hq hf
          refine lv_iload_n hx hb dX2_firstFault_31 rfl (lv_at hl 3 rfl) ?_
          refine lv_if_eq (tgt := 52) hx hb dX2_firstFault_32 (by decide) (fun hq => ?_) (fun hq => ?_)
          · replace hf := jx_pos hq hf
            refine lv_iconst (v := 0) hx hb dX2_firstFault_52 (by decide) ?_
            refine lv_goto (tgt := 71) hx hb dX2_firstFault_53 (by decide) ?_
            have he := jx_eq hf
            subst he
            exact hJj5 _ _ _ hP hD hS (lv_sub hl [1, 2, 4, 0] rfl)
          · replace hf := jx_neg hq hf
            refine lv_aload_n hx hb dX2_firstFault_35 rfl (lv_at hl 1 rfl) ?_
            refine va_get (D := D) (ci := 2) (v := .ref (a 2)) (C := RX2) (T := TX2) (N := 2) hx hb hts iw_X2_firstFault_X2 hown hK hP 0 rfl rfl 0 (by decide) (hts (.fieldLink RX2 9 "PassedDuties$Page" "codes" "[I") (by decide +kernel)) (fun _ h9 => h9) rfl dX2_firstFault_36 ?_
            refine lv_iload_n hx hb dX2_firstFault_39 rfl (lv_at hl 4 rfl) ?_
            obtain ⟨hi, hf⟩ := jx_gs hf
            refine va_iald hx hb hK hP 1 0 rfl rfl (jx_ip hi) dX2_firstFault_40 ?_
            clear hi
            obtain ⟨r7, hc, hf⟩ := jx_bs hf
            refine jx_ki (wr := [((a 1), .inr (2, [.ref (a 2), .int pl])), ((a 2), .inl (cI, 24, .inl cd))]) (ws2 := (wPg a cI cL pl cd)) (jx_runS (As := [.int (cd (s1.2.2).toNatClampNeg)]) (rest := []) ⟨hx, hb, hml, hown, hts⟩ (c_X2_reachOf l D a cI cL (cd (s1.2.2).toNatClampNeg) r7 hc _) (va_cwS 1 hts gX2_firstFault_X2_reachOf rfl rfl rfl (by decide +kernel) ⟨Nat.le_of_ble_eq_true rfl, Nat.le_of_ble_eq_true rfl⟩) hK hN hP hD [] rfl (by decide) rfl hl.1 rfl (Nat.le_of_ble_eq_true rfl) dX2_firstFault_41 ⟨Nat.le_of_ble_eq_true rfl, Nat.le_of_ble_eq_true rfl⟩) hP hD hS hA [] [0, 1] [0, 1] rfl rfl (by decide) (by decide) rfl (by decide) (fun H locs hP hD hS => ?_)
            clear hc
            refine lv_iconst (v := 1) hx hb dX2_firstFault_44 (by decide) ?_
            refine lv_icmp_eq (tgt := 52) hx hb dX2_firstFault_45 (by decide) (fun hq => ?_) (fun hq => ?_)
            · replace hf := jx_pos hq hf
              refine lv_iconst (v := 0) hx hb dX2_firstFault_52 (by decide) ?_
              refine lv_goto (tgt := 71) hx hb dX2_firstFault_53 (by decide) ?_
              have he := jx_eq hf
              subst he
              exact hJj5 _ _ _ hP hD hS (lv_sub hl [1, 2, 4, 0] rfl)
            · replace hf := jx_neg hq hf
              refine lv_iconst (v := 1) hx hb dX2_firstFault_48 (by decide) ?_
              refine lv_goto (tgt := 71) hx hb dX2_firstFault_49 (by decide) ?_
              have he := jx_eq hf
              subst he
              exact hJj5 _ _ _ hP hD hS (lv_sub hl [1, 2, 4, 0] rfl)
  exact hLk2 jx_F ((0 : Int32), (0 : Int32), (0 : Int32)) _ _ _ hf hP hD hS (lv_sub hl [3, 2, 1, 0] rfl)
theorem iw_X2_meaning_X2 : ∀ w ∈ wsX20, w ∈ wsX2_meaning := by decide +kernel
set_option maxHeartbeats 4000000 in
set_option maxRecDepth 100000 in
theorem c_X2_meaning (l : Launch) (D : va_G) (a : Nat → Nat) (cI cL : ClassId) (pl : Int32) (cd : (Nat → Int32)) (res : Int64) (hf : pf_X2_meaning pl cd = some res) : jMl l yX2_meaning wsX2_meaning ({ frames := 1, cells := 0, slots := 0, locals := 24 }) D [(cI, .int), (cL, .long)] [.ref (a 1)] (wPg a cI cL pl cd) res (wPg a cI cL pl cd) := by
  intro sz
  refine Met.ofW (cc := cX2_meaning) (maxL := 6) (ret := (some .long)) (by decide) rfl ?_
  intro p e s m args below meth c s₁ B hml hv
  obtain ⟨rfl, hsz, hP, hK, hD0, hN⟩ := hv
  have hx := B.exec
  have hb := B.bytes
  have hr := B.returns
  have hts := atoms_spec (ws := wsX2_meaning) B.pre
  have hown : s.vm.findClass RX2 = some m.cls := findClass_of_methodNamed B.named
  have hlocks := B.notSynchronized
  subst hsz
  have hD := hD0.self (sz := s.heap.size)
  generalize hAe : va_A (wPg a cI cL pl cd) s.heap.size = A at hD ⊢
  have hA : ∀ q : Nat, s.heap.size ≤ q → A q := fun q h => by rw [← hAe]; exact Or.inr h
  have hS : va_S A s.heap s.heap [] := va_S.rf
  have hl := lv_entry ([.ref (a 1)]) (n := 6) (Nat.le_of_ble_eq_true rfl)
  rw [lg_entry_eq]
  generalize (lg_sl ([.ref (a 1)]) ++ List.replicate (6 - (lg_sl ([.ref (a 1)])).length) Slot.unset).toArray = ls at hl ⊢
  have hl : lv_has ls 6 [(0, .ref (a 1))] := hl
  have hf : pf_X2_meaning pl cd = some res := hf
  refine lv_lconst (v := 0) hx hb dX2_meaning_0 (by decide) ?_
  refine lv_lstore_n (lv' := [(1, .long (0 : Int64)), (0, .ref (a 1))]) hx hb dX2_meaning_1 rfl hl (by decide) rfl (fun ls hl => ?_)
  refine lv_iconst (v := 0) hx hb dX2_meaning_2 (by decide) ?_
  refine lv_istore_n (lv' := [(3, .int (0 : Int32)), (1, .long (0 : Int64)), (0, .ref (a 1))]) hx hb dX2_meaning_3 rfl hl (by decide) rfl (fun ls hl => ?_)
  obtain ⟨k2, hf, hkk2⟩ := jx_bs hf
  have hXk2 : ∀ (H : Heap) (locs : List Loc) (ls : Array Slot), va_P D vwCl (wPg a cI cL pl cd) H → va_D A (wPg a cI cL pl cd) → va_S A s.heap H locs → lv_has ls 6 [(1, .long k2)] → jx_Wl p l e wsX2_meaning ({ frames := 1, cells := 0, slots := 0, locals := 24 }) s m [.ref (a 1)] below meth c D [(cI, .int), (cL, .long)] res (wPg a cI cL pl cd) A H locs (F0 m 72 ls []) := by
    clear hf hP hD hS hl
    intro H locs ls hP hD hS hl
    have hf := hkk2
    refine lv_lload_n hx hb dX2_meaning_72 rfl (lv_at hl 0 rfl) ?_
    have he := jx_eq hf
    subst he
    exact jx_retl hx hb hr hlocks rfl hK hP hD hS dX2_meaning_73
  have hLk2 : ∀ (n : Nat) (s1 : (Int64 × Int32)) (H : Heap) (locs : List Loc) (ls : Array Slot), jx_iter (pf_X2_meaning_s1 pl cd) n s1 = some k2 → va_P D vwCl (wPg a cI cL pl cd) H → va_D A (wPg a cI cL pl cd) → va_S A s.heap H locs → lv_has ls 6 [(0, .ref (a 1)), (1, .long s1.1), (3, .int s1.2)] → jx_Wl p l e wsX2_meaning ({ frames := 1, cells := 0, slots := 0, locals := 24 }) s m [.ref (a 1)] below meth c D [(cI, .int), (cL, .long)] res (wPg a cI cL pl cd) A H locs (F0 m 4 ls []) := by
    clear hf hP hD hS hl
    intro n
    induction n with
    | zero => intro s1 _ _ _ hf; cases hf
    | succ n ihk2 =>
      intro s1 H locs ls hf hP hD hS hl
      obtain ⟨q3, hf, hgk2⟩ := jx_bs hf
      refine lv_iload_n hx hb dX2_meaning_4 rfl (lv_at hl 2 rfl) ?_
      refine lv_aload_n hx hb dX2_meaning_5 rfl (lv_at hl 0 rfl) ?_
      refine va_get (D := D) (ci := 2) (v := .int pl) (C := RX2) (T := TX2) (N := 2) hx hb hts iw_X2_meaning_X2 hown hK hP 0 rfl rfl 1 (by decide) (hts (.fieldLink RX2 15 "PassedDuties$Page" "length" "I") (by decide +kernel)) (fun _ h9 => h9) rfl dX2_meaning_6 ?_
      refine lv_icmp_ge (tgt := 72) hx hb dX2_meaning_9 (by decide) (fun hq => ?_) (fun hq => ?_)
      · replace hf := jx_pos hq hf
        have he := jx_eq hf
        subst he
        have he : _ = k2 := jx_eq hgk2
        subst he
        exact hXk2 _ _ _ hP hD hS (lv_sub hl [1] rfl)
      · replace hf := jx_neg hq hf
        refine lv_aload_n hx hb dX2_meaning_12 rfl (lv_at hl 0 rfl) ?_
        refine va_get (D := D) (ci := 2) (v := .ref (a 2)) (C := RX2) (T := TX2) (N := 2) hx hb hts iw_X2_meaning_X2 hown hK hP 0 rfl rfl 0 (by decide) (hts (.fieldLink RX2 9 "PassedDuties$Page" "codes" "[I") (by decide +kernel)) (fun _ h9 => h9) rfl dX2_meaning_13 ?_
        refine lv_iload_n hx hb dX2_meaning_16 rfl (lv_at hl 2 rfl) ?_
        obtain ⟨hi, hf⟩ := jx_gs hf
        refine va_iald hx hb hK hP 1 0 rfl rfl (jx_ip hi) dX2_meaning_17 ?_
        clear hi
        obtain ⟨r4, hc, hf⟩ := jx_bs hf
        refine jx_ki (wr := [((a 1), .inr (2, [.ref (a 2), .int pl])), ((a 2), .inl (cI, 24, .inl cd))]) (ws2 := (wPg a cI cL pl cd)) (jx_runS (As := [.int (cd (s1.2).toNatClampNeg)]) (rest := []) ⟨hx, hb, hml, hown, hts⟩ (c_X2_itemOf l D a cI cL (cd (s1.2).toNatClampNeg) r4 hc _) (va_cwS 1 hts gX2_meaning_X2_itemOf rfl rfl rfl (by decide +kernel) ⟨Nat.le_of_ble_eq_true rfl, Nat.le_of_ble_eq_true rfl⟩) hK hN hP hD [] rfl (by decide) rfl hl.1 rfl (Nat.le_of_ble_eq_true rfl) dX2_meaning_18 ⟨Nat.le_of_ble_eq_true rfl, Nat.le_of_ble_eq_true rfl⟩) hP hD hS hA [] [0, 1] [0, 1] rfl rfl (by decide) (by decide) rfl (by decide) (fun H locs hP hD hS => ?_)
        clear hc
        refine lv_istore (lv' := [(4, .int r4), (0, .ref (a 1)), (1, .long s1.1), (3, .int s1.2)]) hx hb dX2_meaning_21 hl (by decide) rfl (fun ls hl => ?_)
        refine lv_iload hx hb dX2_meaning_23 (lv_at hl 0 rfl) ?_
        refine lv_iconst (v := -1) hx hb dX2_meaning_25 (by decide) ?_
        obtain ⟨j5, hf, hkj5⟩ := jx_bs hf
        have hJj5 : ∀ (H : Heap) (locs : List Loc) (ls : Array Slot), va_P D vwCl (wPg a cI cL pl cd) H → va_D A (wPg a cI cL pl cd) → va_S A s.heap H locs → lv_has ls 6 [(0, .ref (a 1)), (1, .long j5), (3, .int s1.2)] → jx_Wl p l e wsX2_meaning ({ frames := 1, cells := 0, slots := 0, locals := 24 }) s m [.ref (a 1)] below meth c D [(cI, .int), (cL, .long)] res (wPg a cI cL pl cd) A H locs (F0 m 66 ls []) := by
          clear hf hP hD hS hl
          intro H locs ls hP hD hS hl
          have hf := hkj5
          refine lv_iinc (v := (s1.2 + (1 : Int32))) (lv' := [(3, .int (s1.2 + (1 : Int32))), (0, .ref (a 1)), (1, .long j5)]) hx hb dX2_meaning_66 hl (k := 2) rfl rfl (by decide) rfl (fun ls hl => ?_)
          refine lv_goto (tgt := 4) hx hb dX2_meaning_69 (by decide) ?_
          have he := jx_eq hf
          subst he
          exact ihk2 (j5, (s1.2 + (1 : Int32))) _ _ _ hgk2 hP hD hS (lv_sub hl [1, 2, 0] rfl)
        refine lv_icmp_eq (tgt := 66) hx hb dX2_meaning_26 (by decide) (fun hq => ?_) (fun hq => ?_)
        · replace hf := jx_pos hq hf
          have he := jx_eq hf
          subst he
          exact hJj5 _ _ _ hP hD hS (lv_sub hl [1, 2, 3] rfl)
        · replace hf := jx_neg hq hf
          refine lv_iload_n hx hb dX2_meaning_29 rfl (lv_at hl 3 rfl) ?_
          refine lv_iconst (v := 1) hx hb dX2_meaning_30 (by decide) ?_
          refine lv_iadd hx hb dX2_meaning_31 ?_
          refine lv_aload_n hx hb dX2_meaning_32 rfl (lv_at hl 1 rfl) ?_
          refine va_get (D := D) (ci := 2) (v := .int pl) (C := RX2) (T := TX2) (N := 2) hx hb hts iw_X2_meaning_X2 hown hK hP 0 rfl rfl 1 (by decide) (hts (.fieldLink RX2 15 "PassedDuties$Page" "length" "I") (by decide +kernel)) (fun _ h9 => h9) rfl dX2_meaning_33 ?_
          obtain ⟨j6, hf, hkj6⟩ := jx_bs hf
          have hJj6 : ∀ (H : Heap) (locs : List Loc) (ls : Array Slot), va_P D vwCl (wPg a cI cL pl cd) H → va_D A (wPg a cI cL pl cd) → va_S A s.heap H locs → lv_has ls 6 [(0, .ref (a 1)), (1, .long s1.1), (3, .int s1.2), (4, .int r4)] → jx_Wl p l e wsX2_meaning ({ frames := 1, cells := 0, slots := 0, locals := 24 }) s m [.ref (a 1)] below meth c D [(cI, .int), (cL, .long)] res (wPg a cI cL pl cd) A H locs (F0 m 54 ls [.int j6]) := by
            clear hf hP hD hS hl
            intro H locs ls hP hD hS hl
            have hf := hkj6
            refine lv_istore (lv' := [(5, .int j6), (0, .ref (a 1)), (1, .long s1.1), (3, .int s1.2), (4, .int r4)]) hx hb dX2_meaning_54 hl (by decide) rfl (fun ls hl => ?_)
            refine lv_lload_n hx hb dX2_meaning_56 rfl (lv_at hl 2 rfl) ?_
            refine lv_iload hx hb dX2_meaning_57 (lv_at hl 4 rfl) ?_
            refine lv_iload hx hb dX2_meaning_59 (lv_at hl 0 rfl) ?_
            obtain ⟨r8, hc, hf⟩ := jx_bs hf
            refine jx_kl (wr := [((a 1), .inr (2, [.ref (a 2), .int pl])), ((a 2), .inl (cI, 24, .inl cd))]) (ws2 := (wPg a cI cL pl cd)) (jx_runS (As := [.int r4, .int j6]) (rest := [.long s1.1]) ⟨hx, hb, hml, hown, hts⟩ (c_X4_rowsFor l D a cI cL r4 j6 r8 hc _) (va_cwS 2 hts gX2_meaning_X4_rowsFor rfl rfl rfl (by decide +kernel) ⟨Nat.le_of_ble_eq_true rfl, Nat.le_of_ble_eq_true rfl⟩) hK hN hP hD [] rfl (by decide) rfl hl.1 rfl (Nat.le_of_ble_eq_true rfl) dX2_meaning_61 ⟨Nat.le_of_ble_eq_true rfl, Nat.le_of_ble_eq_true rfl⟩) hP hD hS hA [] [0, 1] [0, 1] rfl rfl (by decide) (by decide) rfl (by decide) (fun H locs hP hD hS => ?_)
            clear hc
            refine lv_lor hx hb dX2_meaning_64 ?_
            refine lv_lstore_n (lv' := [(1, .long (s1.1 ||| r8)), (5, .int j6), (0, .ref (a 1)), (3, .int s1.2), (4, .int r4)]) hx hb dX2_meaning_65 rfl hl (by decide) rfl (fun ls hl => ?_)
            have he := jx_eq hf
            subst he
            exact hJj5 _ _ _ hP hD hS (lv_sub hl [2, 0, 3] rfl)
          refine lv_icmp_ge (tgt := 53) hx hb dX2_meaning_36 (by decide) (fun hq => ?_) (fun hq => ?_)
          · replace hf := jx_pos hq hf
            refine lv_iconst (v := 1) hx hb dX2_meaning_53 (by decide) ?_
            have he := jx_eq hf
            subst he
            exact hJj6 _ _ _ hP hD hS (lv_sub hl [1, 2, 3, 0] rfl)
          · replace hf := jx_neg hq hf
            refine lv_aload_n hx hb dX2_meaning_39 rfl (lv_at hl 1 rfl) ?_
            refine va_get (D := D) (ci := 2) (v := .ref (a 2)) (C := RX2) (T := TX2) (N := 2) hx hb hts iw_X2_meaning_X2 hown hK hP 0 rfl rfl 0 (by decide) (hts (.fieldLink RX2 9 "PassedDuties$Page" "codes" "[I") (by decide +kernel)) (fun _ h9 => h9) rfl dX2_meaning_40 ?_
            refine lv_iload_n hx hb dX2_meaning_43 rfl (lv_at hl 3 rfl) ?_
            refine lv_iconst (v := 1) hx hb dX2_meaning_44 (by decide) ?_
            refine lv_iadd hx hb dX2_meaning_45 ?_
            obtain ⟨hi, hf⟩ := jx_gs hf
            refine va_iald hx hb hK hP 1 0 rfl rfl (jx_ip hi) dX2_meaning_46 ?_
            clear hi
            obtain ⟨r7, hc, hf⟩ := jx_bs hf
            refine jx_ki (wr := [((a 1), .inr (2, [.ref (a 2), .int pl])), ((a 2), .inl (cI, 24, .inl cd))]) (ws2 := (wPg a cI cL pl cd)) (jx_runS (As := [.int (cd ((s1.2 + (1 : Int32))).toNatClampNeg)]) (rest := []) ⟨hx, hb, hml, hown, hts⟩ (c_X2_reachOf l D a cI cL (cd ((s1.2 + (1 : Int32))).toNatClampNeg) r7 hc _) (va_cwS 1 hts gX2_meaning_X2_reachOf rfl rfl rfl (by decide +kernel) ⟨Nat.le_of_ble_eq_true rfl, Nat.le_of_ble_eq_true rfl⟩) hK hN hP hD [] rfl (by decide) rfl hl.1 rfl (Nat.le_of_ble_eq_true rfl) dX2_meaning_47 ⟨Nat.le_of_ble_eq_true rfl, Nat.le_of_ble_eq_true rfl⟩) hP hD hS hA [] [0, 1] [0, 1] rfl rfl (by decide) (by decide) rfl (by decide) (fun H locs hP hD hS => ?_)
            clear hc
            refine lv_goto (tgt := 54) hx hb dX2_meaning_50 (by decide) ?_
            have he := jx_eq hf
            subst he
            exact hJj6 _ _ _ hP hD hS (lv_sub hl [1, 2, 3, 0] rfl)
  exact hLk2 jx_F ((0 : Int64), (0 : Int32)) _ _ _ hf hP hD hS (lv_sub hl [2, 1, 0] rfl)
theorem iw_X2_wipe_X2 : ∀ w ∈ wsX20, w ∈ wsX2_wipe := by decide +kernel
set_option maxHeartbeats 4000000 in
set_option maxRecDepth 100000 in
theorem c_X2_wipe (l : Launch) (D : va_G) (a : Nat → Nat) (cI cL : ClassId) (pl : Int32) (cd : (Nat → Int32)) (res : (Int32 × Int32)) (hf : pf_X2_wipe pl = some res) : jMi l yX2_wipe wsX2_wipe ({ frames := 0, cells := 0, slots := 0, locals := 0 }) D [(cI, .int), (cL, .long)] [.ref (a 1)] (wPg a cI cL pl cd) res.1 (wPg a cI cL res.2 cd) := by
  intro sz
  refine Met.ofW (cc := cX2_wipe) (maxL := 2) (ret := (some .int)) (by decide) rfl ?_
  intro p e s m args below meth c s₁ B hml hv
  obtain ⟨rfl, hsz, hP, hK, hD0, hN⟩ := hv
  have hx := B.exec
  have hb := B.bytes
  have hr := B.returns
  have hts := atoms_spec (ws := wsX2_wipe) B.pre
  have hown : s.vm.findClass RX2 = some m.cls := findClass_of_methodNamed B.named
  have hlocks := B.notSynchronized
  subst hsz
  have hD := hD0.self (sz := s.heap.size)
  generalize hAe : va_A (wPg a cI cL pl cd) s.heap.size = A at hD ⊢
  have hA : ∀ q : Nat, s.heap.size ≤ q → A q := fun q h => by rw [← hAe]; exact Or.inr h
  have hS : va_S A s.heap s.heap [] := va_S.rf
  have hl := lv_entry ([.ref (a 1)]) (n := 2) (Nat.le_of_ble_eq_true rfl)
  rw [lg_entry_eq]
  generalize (lg_sl ([.ref (a 1)]) ++ List.replicate (2 - (lg_sl ([.ref (a 1)])).length) Slot.unset).toArray = ls at hl ⊢
  have hl : lv_has ls 2 [(0, .ref (a 1))] := hl
  have hf : pf_X2_wipe pl = some res := hf
  refine lv_aload_n hx hb dX2_wipe_0 rfl (lv_at hl 0 rfl) ?_
  refine va_get (D := D) (ci := 2) (v := .int pl) (C := RX2) (T := TX2) (N := 2) hx hb hts iw_X2_wipe_X2 hown hK hP 0 rfl rfl 1 (by decide) (hts (.fieldLink RX2 15 "PassedDuties$Page" "length" "I") (by decide +kernel)) (fun _ h9 => h9) rfl dX2_wipe_1 ?_
  refine lv_istore_n (lv' := [(1, .int pl), (0, .ref (a 1))]) hx hb dX2_wipe_4 rfl hl (by decide) rfl (fun ls hl => ?_)
  refine lv_aload_n hx hb dX2_wipe_5 rfl (lv_at hl 1 rfl) ?_
  refine lv_iconst (v := 0) hx hb dX2_wipe_6 (by decide) ?_
  refine va_put (D := D) (ci := 2) (v := .int (0 : Int32)) (ty := .int) (C := RX2) (T := TX2) (N := 2) hx hb hts iw_X2_wipe_X2 tyX2 tyX2_ok nmX2 hown hK hP hD hS 0 rfl rfl 1 (by decide) (hts (.fieldLink RX2 15 "PassedDuties$Page" "length" "I") (by decide +kernel)) (fun _ h9 => h9) rfl (by decide +kernel) rfl rfl (Nat.le_of_ble_eq_true rfl) dX2_wipe_7 (fun H locs hP hD hS => ?_)
  have hP : va_P D vwCl (wPg a cI cL (0 : Int32) cd) H := hP
  have hD : va_D A (wPg a cI cL (0 : Int32) cd) := hD
  refine lv_iload_n hx hb dX2_wipe_10 rfl (lv_at hl 0 rfl) ?_
  have he := jx_eq hf
  subst he
  exact jx_reti hx hb hr hlocks rfl hK hP hD hS dX2_wipe_11
theorem iw_X2_write_X2 : ∀ w ∈ wsX20, w ∈ wsX2_write := by decide +kernel
set_option maxHeartbeats 4000000 in
set_option maxRecDepth 100000 in
theorem c_X2_write (l : Launch) (D : va_G) (a : Nat → Nat) (cI cL : ClassId) (pl : Int32) (cd : (Nat → Int32)) (p0 : Int32) (res : (Int32 × Int32 × (Nat → Int32))) (hf : pf_X2_write pl cd p0 = some res) : jMi l yX2_write wsX2_write ({ frames := 0, cells := 0, slots := 0, locals := 0 }) D [(cI, .int), (cL, .long)] [.ref (a 1), .int p0] (wPg a cI cL pl cd) res.1 (wPg a cI cL res.2.1 res.2.2) := by
  intro sz
  refine Met.ofW (cc := cX2_write) (maxL := 2) (ret := (some .int)) (by decide) rfl ?_
  intro p e s m args below meth c s₁ B hml hv
  obtain ⟨rfl, hsz, hP, hK, hD0, hN⟩ := hv
  have hx := B.exec
  have hb := B.bytes
  have hr := B.returns
  have hts := atoms_spec (ws := wsX2_write) B.pre
  have hown : s.vm.findClass RX2 = some m.cls := findClass_of_methodNamed B.named
  have hlocks := B.notSynchronized
  subst hsz
  have hD := hD0.self (sz := s.heap.size)
  generalize hAe : va_A (wPg a cI cL pl cd) s.heap.size = A at hD ⊢
  have hA : ∀ q : Nat, s.heap.size ≤ q → A q := fun q h => by rw [← hAe]; exact Or.inr h
  have hS : va_S A s.heap s.heap [] := va_S.rf
  have hl := lv_entry ([.ref (a 1), .int p0]) (n := 2) (Nat.le_of_ble_eq_true rfl)
  rw [lg_entry_eq]
  generalize (lg_sl ([.ref (a 1), .int p0]) ++ List.replicate (2 - (lg_sl ([.ref (a 1), .int p0])).length) Slot.unset).toArray = ls at hl ⊢
  have hl : lv_has ls 2 [(0, .ref (a 1)), (1, .int p0)] := hl
  have hf : pf_X2_write pl cd p0 = some res := hf
  refine lv_aload_n hx hb dX2_write_0 rfl (lv_at hl 0 rfl) ?_
  refine va_get (D := D) (ci := 2) (v := .int pl) (C := RX2) (T := TX2) (N := 2) hx hb hts iw_X2_write_X2 hown hK hP 0 rfl rfl 1 (by decide) (hts (.fieldLink RX2 15 "PassedDuties$Page" "length" "I") (by decide +kernel)) (fun _ h9 => h9) rfl dX2_write_1 ?_
  refine lv_bipush (v := 24) hx hb dX2_write_4 (by decide) ?_
  obtain ⟨j1, hf, hkj1⟩ := jx_bs hf
  have hJj1 : ∀ (H : Heap) (locs : List Loc) (ls : Array Slot), va_P D vwCl (wPg a cI cL j1.1 j1.2) H → va_D A (wPg a cI cL j1.1 j1.2) → va_S A s.heap H locs → lv_has ls 2 [(0, .ref (a 1))] → jx_Wi p l e wsX2_write ({ frames := 0, cells := 0, slots := 0, locals := 0 }) s m [.ref (a 1), .int p0] below meth c D [(cI, .int), (cL, .long)] (res.1) (wPg a cI cL res.2.1 res.2.2) A H locs (F0 m 29 ls []) := by
    clear hf hP hD hS hl
    intro H locs ls hP hD hS hl
    have hf := hkj1
    refine lv_aload_n hx hb dX2_write_29 rfl (lv_at hl 0 rfl) ?_
    refine va_get (D := D) (ci := 2) (v := .int j1.1) (C := RX2) (T := TX2) (N := 2) hx hb hts iw_X2_write_X2 hown hK hP 0 rfl rfl 1 (by decide) (hts (.fieldLink RX2 15 "PassedDuties$Page" "length" "I") (by decide +kernel)) (fun _ h9 => h9) rfl dX2_write_30 ?_
    have he := jx_eq hf
    subst he
    exact jx_reti hx hb hr hlocks rfl hK hP hD hS dX2_write_33
  refine lv_icmp_ge (tgt := 29) hx hb dX2_write_6 (by decide) (fun hq => ?_) (fun hq => ?_)
  · replace hf := jx_pos hq hf
    have he := jx_eq hf
    subst he
    exact hJj1 _ _ _ hP hD hS (lv_sub hl [0] rfl)
  · replace hf := jx_neg hq hf
    refine lv_aload_n hx hb dX2_write_9 rfl (lv_at hl 0 rfl) ?_
    refine va_get (D := D) (ci := 2) (v := .ref (a 2)) (C := RX2) (T := TX2) (N := 2) hx hb hts iw_X2_write_X2 hown hK hP 0 rfl rfl 0 (by decide) (hts (.fieldLink RX2 9 "PassedDuties$Page" "codes" "[I") (by decide +kernel)) (fun _ h9 => h9) rfl dX2_write_10 ?_
    refine lv_aload_n hx hb dX2_write_13 rfl (lv_at hl 0 rfl) ?_
    refine va_get (D := D) (ci := 2) (v := .int pl) (C := RX2) (T := TX2) (N := 2) hx hb hts iw_X2_write_X2 hown hK hP 0 rfl rfl 1 (by decide) (hts (.fieldLink RX2 15 "PassedDuties$Page" "length" "I") (by decide +kernel)) (fun _ h9 => h9) rfl dX2_write_14 ?_
    refine lv_iload_n hx hb dX2_write_17 rfl (lv_at hl 1 rfl) ?_
    obtain ⟨hi, hf⟩ := jx_gs hf
    refine va_iast hx hb hK hP hD hS 1 0 rfl rfl (jx_ip hi) dX2_write_18 (fun H locs hP hD hS => ?_)
    clear hi
    have hP : va_P D vwCl (wPg a cI cL pl (upd cd (pl).toNatClampNeg p0)) H := hP
    have hD : va_D A (wPg a cI cL pl (upd cd (pl).toNatClampNeg p0)) := hD
    refine lv_aload_n hx hb dX2_write_19 rfl (lv_at hl 0 rfl) ?_
    refine lv_dup hx hb dX2_write_20 rfl ?_
    refine va_get (D := D) (ci := 2) (v := .int pl) (C := RX2) (T := TX2) (N := 2) hx hb hts iw_X2_write_X2 hown hK hP 0 rfl rfl 1 (by decide) (hts (.fieldLink RX2 15 "PassedDuties$Page" "length" "I") (by decide +kernel)) (fun _ h9 => h9) rfl dX2_write_21 ?_
    refine lv_iconst (v := 1) hx hb dX2_write_24 (by decide) ?_
    refine lv_iadd hx hb dX2_write_25 ?_
    refine va_put (D := D) (ci := 2) (v := .int (pl + (1 : Int32))) (ty := .int) (C := RX2) (T := TX2) (N := 2) hx hb hts iw_X2_write_X2 tyX2 tyX2_ok nmX2 hown hK hP hD hS 0 rfl rfl 1 (by decide) (hts (.fieldLink RX2 15 "PassedDuties$Page" "length" "I") (by decide +kernel)) (fun _ h9 => h9) rfl (by decide +kernel) rfl rfl (Nat.le_of_ble_eq_true rfl) dX2_write_26 (fun H locs hP hD hS => ?_)
    have hP : va_P D vwCl (wPg a cI cL (pl + (1 : Int32)) (upd cd (pl).toNatClampNeg p0)) H := hP
    have hD : va_D A (wPg a cI cL (pl + (1 : Int32)) (upd cd (pl).toNatClampNeg p0)) := hD
    have he := jx_eq hf
    subst he
    exact hJj1 _ _ _ hP hD hS (lv_sub hl [0] rfl)
