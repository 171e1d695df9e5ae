theorem iw_X0_find_X0 : ∀ w ∈ wsX00, w ∈ wsX0_find := by decide +kernel
set_option maxHeartbeats 4000000 in
set_option maxRecDepth 100000 in
theorem c_X0_find (l : Launch) (D : va_G) (a : Nat → Nat) (cI cL : ClassId) (bs : Int32) (br : (Nat → Int64)) (p0 : Int64) (res : Int32) (hf : pf_X0_find bs br p0 = some res) : jMi l yX0_find wsX0_find ({ frames := 0, cells := 0, slots := 0, locals := 0 }) D [(cI, .int), (cL, .long)] [.ref (a 3), .long p0] (wBk a cI cL bs br) res (wBk a cI cL bs br) := by
  intro sz
  refine Met.ofW (cc := cX0_find) (maxL := 4) (ret := (some .int)) (by decide) rfl ?_
  intro p e s m args below meth c s₁ B hml hv
  obtain ⟨rfl, hsz, hP, hK, hD0, hN⟩ := hv
  have hx := B.exec
  have hb := B.bytes
  have hr := B.returns
  have hts := atoms_spec (ws := wsX0_find) B.pre
  have hown : s.vm.findClass RX0 = some m.cls := findClass_of_methodNamed B.named
  have hlocks := B.notSynchronized
  subst hsz
  have hD := hD0.self (sz := s.heap.size)
  generalize hAe : va_A (wBk a cI cL bs br) s.heap.size = A at hD ⊢
  have hA : ∀ q : Nat, s.heap.size ≤ q → A q := fun q h => by rw [← hAe]; exact Or.inr h
  have hS : va_S A s.heap s.heap [] := va_S.rf
  have hl := lv_entry ([.ref (a 3), .long p0]) (n := 4) (Nat.le_of_ble_eq_true rfl)
  rw [lg_entry_eq]
  generalize (lg_sl ([.ref (a 3), .long p0]) ++ List.replicate (4 - (lg_sl ([.ref (a 3), .long p0])).length) Slot.unset).toArray = ls at hl ⊢
  have hl : lv_has ls 4 [(0, .ref (a 3)), (1, .long p0)] := hl
  have hf : pf_X0_find bs br p0 = some res := hf
  refine lv_iconst (v := 0) hx hb dX0_find_0 (by decide) ?_
  refine lv_istore_n (lv' := [(3, .int (0 : Int32)), (0, .ref (a 3)), (1, .long p0)]) hx hb dX0_find_1 rfl hl (by decide) rfl (fun ls hl => ?_)
  obtain ⟨k2, hf, hkk2⟩ := jx_bs hf
  have hXk2 : ∀ (xk2 : Unit), k2 = Sum.inl xk2 → ∀ (H : Heap) (locs : List Loc) (ls : Array Slot), va_P D vwCl (wBk a cI cL bs br) H → va_D A (wBk a cI cL bs br) → va_S A s.heap H locs → lv_has ls 4 [] → jx_Wi p l e wsX0_find ({ frames := 0, cells := 0, slots := 0, locals := 0 }) s m [.ref (a 3), .long p0] below meth c D [(cI, .int), (cL, .long)] res (wBk a cI cL bs br) A H locs (F0 m 29 ls []) := by
    clear hf hP hD hS hl
    intro xk2 he H locs ls hP hD hS hl
    subst he
    have hf := hkk2
    refine lv_iconst (v := -1) hx hb dX0_find_29 (by decide) ?_
    have he := jx_eq hf
    subst he
    exact jx_reti hx hb hr hlocks rfl hK hP hD hS dX0_find_30
  have hLk2 : ∀ (n : Nat) (s1 : Int32) (H : Heap) (locs : List Loc) (ls : Array Slot), jx_iter (pf_X0_find_s1 bs br p0) n s1 = some k2 → va_P D vwCl (wBk a cI cL bs br) H → va_D A (wBk a cI cL bs br) → va_S A s.heap H locs → lv_has ls 4 [(0, .ref (a 3)), (1, .long p0), (3, .int s1)] → jx_Wi p l e wsX0_find ({ frames := 0, cells := 0, slots := 0, locals := 0 }) s m [.ref (a 3), .long p0] below meth c D [(cI, .int), (cL, .long)] res (wBk a cI cL bs br) A H locs (F0 m 2 ls []) := by
    clear hf hP hD hS hl
    intro n
    induction n with
    | zero => intro s1 _ _ _ hf; cases hf
    | succ n ihk2 =>
      intro s1 H locs ls hf hP hD hS hl
      obtain ⟨q3, hf, hgk2⟩ := jx_bs hf
      refine lv_iload_n hx hb dX0_find_2 rfl (lv_at hl 2 rfl) ?_
      refine lv_aload_n hx hb dX0_find_3 rfl (lv_at hl 0 rfl) ?_
      refine va_get (D := D) (ci := 0) (v := .int bs) (C := RX0) (T := TX0) (N := 2) hx hb hts iw_X0_find_X0 hown hK hP 0 rfl rfl 1 (by decide) (hts (.fieldLink RX0 15 "PassedDuties$Book" "size" "I") (by decide +kernel)) (fun _ h9 => h9) rfl dX0_find_4 ?_
      refine lv_icmp_ge (tgt := 29) hx hb dX0_find_7 (by decide) (fun hq => ?_) (fun hq => ?_)
      · replace hf := jx_pos hq hf
        have he := jx_eq hf
        subst he
        have he : Sum.inl _ = k2 := jx_eq hgk2
        subst he
        exact hXk2 _ rfl _ _ _ hP hD hS (lv_sub hl [] rfl)
      · replace hf := jx_neg hq hf
        refine lv_aload_n hx hb dX0_find_10 rfl (lv_at hl 0 rfl) ?_
        refine va_get (D := D) (ci := 0) (v := .ref (a 4)) (C := RX0) (T := TX0) (N := 2) hx hb hts iw_X0_find_X0 hown hK hP 0 rfl rfl 0 (by decide) (hts (.fieldLink RX0 9 "PassedDuties$Book" "rows" "[J") (by decide +kernel)) (fun _ h9 => h9) rfl dX0_find_11 ?_
        refine lv_iload_n hx hb dX0_find_14 rfl (lv_at hl 2 rfl) ?_
        obtain ⟨hi, hf⟩ := jx_gs hf
        refine va_lald hx hb hK hP 1 1 rfl rfl (jx_ip hi) dX0_find_15 ?_
        clear hi
        refine lv_lload_n hx hb dX0_find_16 rfl (lv_at hl 1 rfl) ?_
        refine W.lcmp hx hb dX0_find_17 ?_
        refine W.eq (g2 := F0 m 18 ls [.int (lg_cmp (br (s1).toNatClampNeg) p0)]) rfl ?_
        refine lv_if_ne (tgt := 23) hx hb dX0_find_18 (by decide) (fun hq => ?_) (fun hq => ?_)
        · replace hf := jx_pos hq hf
          refine lv_iinc (v := (s1 + (1 : Int32))) (lv' := [(3, .int (s1 + (1 : Int32))), (0, .ref (a 3)), (1, .long p0)]) hx hb dX0_find_23 hl (k := 2) rfl rfl (by decide) rfl (fun ls hl => ?_)
          refine lv_goto (tgt := 2) hx hb dX0_find_26 (by decide) ?_
          have he := jx_eq hf
          subst he
          exact ihk2 (s1 + (1 : Int32)) _ _ _ hgk2 hP hD hS (lv_sub hl [1, 2, 0] rfl)
        · replace hf := jx_negn hq hf
          refine lv_iload_n hx hb dX0_find_21 rfl (lv_at hl 2 rfl) ?_
          have he := jx_eq hf
          subst he
          have he : Sum.inr _ = k2 := jx_eq hgk2
          subst he
          have hf := hkk2
          have he := jx_eq hf
          subst he
          exact jx_reti hx hb hr hlocks rfl hK hP hD hS dX0_find_22
  exact hLk2 jx_F (0 : Int32) _ _ _ hf hP hD hS (lv_sub hl [1, 2, 0] rfl)
theorem iw_X0_has_X0 : ∀ w ∈ wsX00, w ∈ wsX0_has := by decide +kernel
set_option maxHeartbeats 4000000 in
set_option maxRecDepth 100000 in
theorem c_X0_has (l : Launch) (D : va_G) (a : Nat → Nat) (cI cL : ClassId) (bs : Int32) (br : (Nat → Int64)) (p0 : Int32) (res : Int32) (hf : pf_X0_has bs p0 = some res) : jMi l yX0_has wsX0_has ({ frames := 0, cells := 0, slots := 0, locals := 0 }) D [(cI, .int), (cL, .long)] [.ref (a 3), .int p0] (wBk a cI cL bs br) res (wBk a cI cL bs br) := by
  intro sz
  refine Met.ofW (cc := cX0_has) (maxL := 2) (ret := (some .boolean)) (by decide) rfl ?_
  intro p e s m args below meth c s₁ B hml hv
  obtain ⟨rfl, hsz, hP, hK, hD0, hN⟩ := hv
  have hx := B.exec
  have hb := B.bytes
  have hr := B.returns
  have hts := atoms_spec (ws := wsX0_has) B.pre
  have hown : s.vm.findClass RX0 = some m.cls := findClass_of_methodNamed B.named
  have hlocks := B.notSynchronized
  subst hsz
  have hD := hD0.self (sz := s.heap.size)
  generalize hAe : va_A (wBk a cI cL bs br) s.heap.size = A at hD ⊢
  have hA : ∀ q : Nat, s.heap.size ≤ q → A q := fun q h => by rw [← hAe]; exact Or.inr h
  have hS : va_S A s.heap s.heap [] := va_S.rf
  have hl := lv_entry ([.ref (a 3), .int p0]) (n := 2) (Nat.le_of_ble_eq_true rfl)
  rw [lg_entry_eq]
  generalize (lg_sl ([.ref (a 3), .int p0]) ++ List.replicate (2 - (lg_sl ([.ref (a 3), .int p0])).length) Slot.unset).toArray = ls at hl ⊢
  have hl : lv_has ls 2 [(0, .ref (a 3)), (1, .int p0)] := hl
  have hf : pf_X0_has bs p0 = some res := hf
  refine lv_iload_n hx hb dX0_has_0 rfl (lv_at hl 1 rfl) ?_
  refine lv_if_lt (tgt := 16) hx hb dX0_has_1 (by decide) (fun hq => ?_) (fun hq => ?_)
  · replace hf := jx_pos hq hf
    refine lv_iconst (v := 0) hx hb dX0_has_16 (by decide) ?_
    have he := jx_eq hf
    subst he
    exact jx_retz hx hb hr hlocks narrow_b0 rfl hK hP hD hS dX0_has_17
  · replace hf := jx_neg hq hf
    refine lv_iload_n hx hb dX0_has_4 rfl (lv_at hl 1 rfl) ?_
    refine lv_aload_n hx hb dX0_has_5 rfl (lv_at hl 0 rfl) ?_
    refine va_get (D := D) (ci := 0) (v := .int bs) (C := RX0) (T := TX0) (N := 2) hx hb hts iw_X0_has_X0 hown hK hP 0 rfl rfl 1 (by decide) (hts (.fieldLink RX0 15 "PassedDuties$Book" "size" "I") (by decide +kernel)) (fun _ h9 => h9) rfl dX0_has_6 ?_
    refine lv_icmp_ge (tgt := 16) hx hb dX0_has_9 (by decide) (fun hq => ?_) (fun hq => ?_)
    · replace hf := jx_pos hq hf
      refine lv_iconst (v := 0) hx hb dX0_has_16 (by decide) ?_
      have he := jx_eq hf
      subst he
      exact jx_retz hx hb hr hlocks narrow_b0 rfl hK hP hD hS dX0_has_17
    · replace hf := jx_neg hq hf
      refine lv_iconst (v := 1) hx hb dX0_has_12 (by decide) ?_
      refine lv_goto (tgt := 17) hx hb dX0_has_13 (by decide) ?_
      have he := jx_eq hf
      subst he
      exact jx_retz hx hb hr hlocks narrow_b1 rfl hK hP hD hS dX0_has_17
theorem iw_X0_numberFor_X0 : ∀ w ∈ wsX00, w ∈ wsX0_numberFor := by decide +kernel
set_option maxHeartbeats 4000000 in
set_option maxRecDepth 100000 in
theorem c_X0_numberFor (l : Launch) (D : va_G) (a : Nat → Nat) (cI cL : ClassId) (bs : Int32) (br : (Nat → Int64)) (p0 : Int64) (res : (Int32 × Int32 × (Nat → Int64))) (hf : pf_X0_numberFor bs br p0 = some res) : jMi l yX0_numberFor wsX0_numberFor ({ frames := 1, cells := 0, slots := 0, locals := 23 }) D [(cI, .int), (cL, .long)] [.ref (a 3), .long p0] (wBk a cI cL bs br) res.1 (wBk a cI cL res.2.1 res.2.2) := by
  intro sz
  refine Met.ofW (cc := cX0_numberFor) (maxL := 4) (ret := (some .int)) (by decide) rfl ?_
  intro p e s m args below meth c s₁ B hml hv
  obtain ⟨rfl, hsz, hP, hK, hD0, hN⟩ := hv
  have hx := B.exec
  have hb := B.bytes
  have hr := B.returns
  have hts := atoms_spec (ws := wsX0_numberFor) B.pre
  have hown : s.vm.findClass RX0 = some m.cls := findClass_of_methodNamed B.named
  have hlocks := B.notSynchronized
  subst hsz
  have hD := hD0.self (sz := s.heap.size)
  generalize hAe : va_A (wBk a cI cL bs br) s.heap.size = A at hD ⊢
  have hA : ∀ q : Nat, s.heap.size ≤ q → A q := fun q h => by rw [← hAe]; exact Or.inr h
  have hS : va_S A s.heap s.heap [] := va_S.rf
  have hl := lv_entry ([.ref (a 3), .long p0]) (n := 4) (Nat.le_of_ble_eq_true rfl)
  rw [lg_entry_eq]
  generalize (lg_sl ([.ref (a 3), .long p0]) ++ List.replicate (4 - (lg_sl ([.ref (a 3), .long p0])).length) Slot.unset).toArray = ls at hl ⊢
  have hl : lv_has ls 4 [(0, .ref (a 3)), (1, .long p0)] := hl
  have hf : pf_X0_numberFor bs br p0 = some res := hf
  refine lv_aload_n hx hb dX0_numberFor_0 rfl (lv_at hl 0 rfl) ?_
  refine lv_lload_n hx hb dX0_numberFor_1 rfl (lv_at hl 1 rfl) ?_
  obtain ⟨r1, hc, hf⟩ := jx_bs hf
  refine jx_ki (wr := []) (ws2 := (wBk a cI cL bs br)) (jx_runV (As := [.long p0]) (rest := []) ⟨hx, hb, hml, hown, hts⟩ (c_X0_find l D a cI cL bs br p0 r1 hc _) (cwV 1 hts gX0_numberFor_X0_find rfl rfl rfl (by decide +kernel) ⟨Nat.le_of_ble_eq_true rfl, Nat.le_of_ble_eq_true rfl⟩) hK hN hP hD [0, 1] rfl (by decide) 0 0 rfl rfl rfl hl.1 rfl (Nat.le_of_ble_eq_true rfl) dX0_numberFor_2 ⟨Nat.le_of_ble_eq_true rfl, Nat.le_of_ble_eq_true rfl⟩) hP hD hS hA [0, 1] [] [0, 1] rfl rfl (by decide) (by decide) rfl (by decide) (fun H locs hP hD hS => ?_)
  clear hc
  refine lv_istore_n (lv' := [(3, .int r1), (0, .ref (a 3)), (1, .long p0)]) hx hb dX0_numberFor_5 rfl hl (by decide) rfl (fun ls hl => ?_)
  refine lv_iload_n hx hb dX0_numberFor_6 rfl (lv_at hl 0 rfl) ?_
  refine lv_iconst (v := -1) hx hb dX0_numberFor_7 (by decide) ?_
  refine lv_icmp_ne (tgt := 20) hx hb dX0_numberFor_8 (by decide) (fun hq => ?_) (fun hq => ?_)
  · replace hf := jx_pos hq hf
    refine lv_iload_n hx hb dX0_numberFor_20 rfl (lv_at hl 0 rfl) ?_
    have he := jx_eq hf
    subst he
    exact jx_reti hx hb hr hlocks rfl hK hP hD hS dX0_numberFor_21
  · replace hf := jx_negn hq hf
    refine lv_aload_n hx hb dX0_numberFor_11 rfl (lv_at hl 1 rfl) ?_
    refine va_get (D := D) (ci := 0) (v := .int bs) (C := RX0) (T := TX0) (N := 2) hx hb hts iw_X0_numberFor_X0 hown hK hP 0 rfl rfl 1 (by decide) (hts (.fieldLink RX0 15 "PassedDuties$Book" "size" "I") (by decide +kernel)) (fun _ h9 => h9) rfl dX0_numberFor_12 ?_
    refine lv_bipush (v := 8) hx hb dX0_numberFor_15 (by decide) ?_
    refine lv_icmp_lt (tgt := 22) hx hb dX0_numberFor_17 (by decide) (fun hq => ?_) (fun hq => ?_)
    · replace hf := jx_pos hq hf
      refine lv_aload_n hx hb dX0_numberFor_22 rfl (lv_at hl 1 rfl) ?_
      refine va_get (D := D) (ci := 0) (v := .ref (a 4)) (C := RX0) (T := TX0) (N := 2) hx hb hts iw_X0_numberFor_X0 hown hK hP 0 rfl rfl 0 (by decide) (hts (.fieldLink RX0 9 "PassedDuties$Book" "rows" "[J") (by decide +kernel)) (fun _ h9 => h9) rfl dX0_numberFor_23 ?_
      refine lv_aload_n hx hb dX0_numberFor_26 rfl (lv_at hl 1 rfl) ?_
      refine va_get (D := D) (ci := 0) (v := .int bs) (C := RX0) (T := TX0) (N := 2) hx hb hts iw_X0_numberFor_X0 hown hK hP 0 rfl rfl 1 (by decide) (hts (.fieldLink RX0 15 "PassedDuties$Book" "size" "I") (by decide +kernel)) (fun _ h9 => h9) rfl dX0_numberFor_27 ?_
      refine lv_lload_n hx hb dX0_numberFor_30 rfl (lv_at hl 2 rfl) ?_
      obtain ⟨hi, hf⟩ := jx_gs hf
      refine va_last hx hb hK hP hD hS 1 1 rfl rfl (jx_ip hi) dX0_numberFor_31 (fun H locs hP hD hS => ?_)
      clear hi
      have hP : va_P D vwCl (wBk a cI cL bs (vp_updL br (bs).toNatClampNeg p0)) H := hP
      have hD : va_D A (wBk a cI cL bs (vp_updL br (bs).toNatClampNeg p0)) := hD
      refine lv_aload_n hx hb dX0_numberFor_32 rfl (lv_at hl 1 rfl) ?_
      refine lv_dup hx hb dX0_numberFor_33 rfl ?_
      refine va_get (D := D) (ci := 0) (v := .int bs) (C := RX0) (T := TX0) (N := 2) hx hb hts iw_X0_numberFor_X0 hown hK hP 0 rfl rfl 1 (by decide) (hts (.fieldLink RX0 15 "PassedDuties$Book" "size" "I") (by decide +kernel)) (fun _ h9 => h9) rfl dX0_numberFor_34 ?_
      refine lv_iconst (v := 1) hx hb dX0_numberFor_37 (by decide) ?_
      refine lv_iadd hx hb dX0_numberFor_38 ?_
      refine va_put (D := D) (ci := 0) (v := .int (bs + (1 : Int32))) (ty := .int) (C := RX0) (T := TX0) (N := 2) hx hb hts iw_X0_numberFor_X0 tyX0 tyX0_ok nmX0 hown hK hP hD hS 0 rfl rfl 1 (by decide) (hts (.fieldLink RX0 15 "PassedDuties$Book" "size" "I") (by decide +kernel)) (fun _ h9 => h9) rfl (by decide +kernel) rfl rfl (Nat.le_of_ble_eq_true rfl) dX0_numberFor_39 (fun H locs hP hD hS => ?_)
      have hP : va_P D vwCl (wBk a cI cL (bs + (1 : Int32)) (vp_updL br (bs).toNatClampNeg p0)) H := hP
      have hD : va_D A (wBk a cI cL (bs + (1 : Int32)) (vp_updL br (bs).toNatClampNeg p0)) := hD
      refine lv_aload_n hx hb dX0_numberFor_42 rfl (lv_at hl 1 rfl) ?_
      refine va_get (D := D) (ci := 0) (v := .int (bs + (1 : Int32))) (C := RX0) (T := TX0) (N := 2) hx hb hts iw_X0_numberFor_X0 hown hK hP 0 rfl rfl 1 (by decide) (hts (.fieldLink RX0 15 "PassedDuties$Book" "size" "I") (by decide +kernel)) (fun _ h9 => h9) rfl dX0_numberFor_43 ?_
      refine lv_iconst (v := 1) hx hb dX0_numberFor_46 (by decide) ?_
      refine lv_isub hx hb dX0_numberFor_47 ?_
      have he := jx_eq hf
      subst he
      exact jx_reti hx hb hr hlocks rfl hK hP hD hS dX0_numberFor_48
    · replace hf := jx_neg hq hf
      refine lv_iload_n hx hb dX0_numberFor_20 rfl (lv_at hl 0 rfl) ?_
      have he := jx_eq hf
      subst he
      exact jx_reti hx hb hr hlocks rfl hK hP hD hS dX0_numberFor_21
