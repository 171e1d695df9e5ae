set_option maxHeartbeats 4000000 in
set_option maxRecDepth 100000 in
theorem c_X3_namedBy (l : Launch) (D : va_G) (a : Nat → Nat) (cI cL : ClassId) (un : (Nat → Int32)) (ow : (Nat → Int64)) (ki : (Nat → Int32)) (th : (Nat → Int64)) (cm : (Nat → Int64)) (tr : Int32) (tl : Int32) (ch : Int32) (p0 : Int32) (res : Int32) (hf : pf_X3_namedBy ki p0 = some res) : jMi l yX3_namedBy wsX3_namedBy ({ frames := 1, cells := 0, slots := 0, locals := 22 }) D [(cI, .int), (cL, .long)] [.ref (a 5), .int p0] (wPt a cI cL un ow ki th cm tr tl ch) res (wPt a cI cL un ow ki th cm tr tl ch) := by
  intro sz
  refine Met.ofW (cc := cX3_namedBy) (maxL := 5) (ret := (some .int)) (by decide) rfl ?_
  intro p e s m args below meth c s₁ B hml hv
  obtain ⟨rfl, hsz, hP, hK, hD0, hN⟩ := hv
  have hx := B.exec
  have hb := B.bytes
  have hr := B.returns
  have hts := atoms_spec (ws := wsX3_namedBy) B.pre
  have hown : s.vm.findClass RX3 = some m.cls := findClass_of_methodNamed B.named
  have hlocks := B.notSynchronized
  subst hsz
  have hD := hD0.self (sz := s.heap.size)
  generalize hAe : va_A (wPt a cI cL un ow ki th cm tr tl ch) s.heap.size = A at hD ⊢
  have hA : ∀ q : Nat, s.heap.size ≤ q → A q := fun q h => by rw [← hAe]; exact Or.inr h
  have hS : va_S A s.heap s.heap [] := va_S.rf
  have hl := lv_entry ([.ref (a 5), .int p0]) (n := 5) (Nat.le_of_ble_eq_true rfl)
  rw [lg_entry_eq]
  generalize (lg_sl ([.ref (a 5), .int p0]) ++ List.replicate (5 - (lg_sl ([.ref (a 5), .int p0])).length) Slot.unset).toArray = ls at hl ⊢
  have hl : lv_has ls 5 [(0, .ref (a 5)), (1, .int p0)] := hl
  have hf : pf_X3_namedBy ki p0 = some res := hf
  refine lv_iconst (v := 0) hx hb dX3_namedBy_0 (by decide) ?_
  refine lv_istore_n (lv' := [(2, .int (0 : Int32)), (0, .ref (a 5)), (1, .int p0)]) hx hb dX3_namedBy_1 rfl hl (by decide) rfl (fun ls hl => ?_)
  refine lv_iconst (v := 0) hx hb dX3_namedBy_2 (by decide) ?_
  refine lv_istore_n (lv' := [(3, .int (0 : Int32)), (2, .int (0 : Int32)), (0, .ref (a 5)), (1, .int p0)]) hx hb dX3_namedBy_3 rfl hl (by decide) rfl (fun ls hl => ?_)
  obtain ⟨k2, hf, hkk2⟩ := jx_bs hf
  have hXk2 : ∀ (H : Heap) (locs : List Loc) (ls : Array Slot), va_P D vwCl (wPt a cI cL un ow ki th cm tr tl ch) H → va_D A (wPt a cI cL un ow ki th cm tr tl ch) → va_S A s.heap H locs → lv_has ls 5 [(2, .int k2)] → jx_Wi p l e wsX3_namedBy ({ frames := 1, cells := 0, slots := 0, locals := 22 }) s m [.ref (a 5), .int p0] below meth c D [(cI, .int), (cL, .long)] res (wPt a cI cL un ow ki th cm tr tl ch) A H locs (F0 m 46 ls []) := by
    clear hf hP hD hS hl
    intro H locs ls hP hD hS hl
    have hf := hkk2
    refine lv_iload_n hx hb dX3_namedBy_46 rfl (lv_at hl 0 rfl) ?_
    have he := jx_eq hf
    subst he
    exact jx_reti hx hb hr hlocks rfl hK hP hD hS dX3_namedBy_47
  have hLk2 : ∀ (n : Nat) (s1 : (Int32 × Int32)) (H : Heap) (locs : List Loc) (ls : Array Slot), jx_iter (pf_X3_namedBy_s1 ki p0) n s1 = some k2 → va_P D vwCl (wPt a cI cL un ow ki th cm tr tl ch) H → va_D A (wPt a cI cL un ow ki th cm tr tl ch) → va_S A s.heap H locs → lv_has ls 5 [(0, .ref (a 5)), (1, .int p0), (2, .int s1.1), (3, .int s1.2)] → jx_Wi p l e wsX3_namedBy ({ frames := 1, cells := 0, slots := 0, locals := 22 }) s m [.ref (a 5), .int p0] below meth c D [(cI, .int), (cL, .long)] res (wPt a cI cL un ow ki th cm tr tl ch) A H locs (F0 m 4 ls []) := by
    clear hf hP hD hS hl
    intro n
    induction n with
    | zero => intro s1 _ _ _ hf; cases hf
    | succ n ihk2 =>
      intro s1 H locs ls hf hP hD hS hl
      obtain ⟨q3, hf, hgk2⟩ := jx_bs hf
      refine lv_iload_n hx hb dX3_namedBy_4 rfl (lv_at hl 3 rfl) ?_
      refine lv_bipush (v := 8) hx hb dX3_namedBy_5 (by decide) ?_
      refine lv_icmp_ge (tgt := 46) hx hb dX3_namedBy_7 (by decide) (fun hq => ?_) (fun hq => ?_)
      · replace hf := jx_pos hq hf
        have he := jx_eq hf
        subst he
        have he : _ = k2 := jx_eq hgk2
        subst he
        exact hXk2 _ _ _ hP hD hS (lv_sub hl [2] rfl)
      · replace hf := jx_neg hq hf
        refine lv_aload_n hx hb dX3_namedBy_10 rfl (lv_at hl 0 rfl) ?_
        refine lv_iload_n hx hb dX3_namedBy_11 rfl (lv_at hl 1 rfl) ?_
        refine lv_iload_n hx hb dX3_namedBy_12 rfl (lv_at hl 3 rfl) ?_
        obtain ⟨r4, hc, hf⟩ := jx_bs hf
        refine jx_ki (wr := []) (ws2 := (wPt a cI cL un ow ki th cm tr tl ch)) (jx_runV (As := [.int p0, .int s1.2]) (rest := []) ⟨hx, hb, hml, hown, hts⟩ (c_X3_kindOf l D a cI cL un ow ki th cm tr tl ch p0 s1.2 r4 hc _) (cwV 2 hts gX3_namedBy_X3_kindOf rfl rfl rfl (by decide +kernel) ⟨Nat.le_of_ble_eq_true rfl, Nat.le_of_ble_eq_true rfl⟩) hK hN hP hD [0, 1, 2, 3, 4, 5] rfl (by decide) 0 3 rfl rfl rfl hl.1 rfl (Nat.le_of_ble_eq_true rfl) dX3_namedBy_13 ⟨Nat.le_of_ble_eq_true rfl, Nat.le_of_ble_eq_true rfl⟩) hP hD hS hA [0, 1, 2, 3, 4, 5] [] [0, 1, 2, 3, 4, 5] rfl rfl (by decide) (by decide) rfl (by decide) (fun H locs hP hD hS => ?_)
        clear hc
        refine lv_istore (lv' := [(4, .int r4), (0, .ref (a 5)), (1, .int p0), (2, .int s1.1), (3, .int s1.2)]) hx hb dX3_namedBy_16 hl (by decide) rfl (fun ls hl => ?_)
        refine lv_iload_n hx hb dX3_namedBy_18 rfl (lv_at hl 3 rfl) ?_
        refine lv_iload hx hb dX3_namedBy_19 (lv_at hl 0 rfl) ?_
        refine lv_iconst (v := -1) hx hb dX3_namedBy_21 (by decide) ?_
        obtain ⟨j5, hf, hkj5⟩ := jx_bs hf
        have hJj5 : ∀ (H : Heap) (locs : List Loc) (ls : Array Slot), va_P D vwCl (wPt a cI cL un ow ki th cm tr tl ch) H → va_D A (wPt a cI cL un ow ki th cm tr tl ch) → va_S A s.heap H locs → lv_has ls 5 [(0, .ref (a 5)), (1, .int p0), (3, .int s1.2)] → jx_Wi p l e wsX3_namedBy ({ frames := 1, cells := 0, slots := 0, locals := 22 }) s m [.ref (a 5), .int p0] below meth c D [(cI, .int), (cL, .long)] res (wPt a cI cL un ow ki th cm tr tl ch) A H locs (F0 m 38 ls [.int j5, .int s1.1]) := by
          clear hf hP hD hS hl
          intro H locs ls hP hD hS hl
          have hf := hkj5
          refine lv_ior hx hb dX3_namedBy_38 ?_
          refine lv_istore_n (lv' := [(2, .int (s1.1 ||| j5)), (0, .ref (a 5)), (1, .int p0), (3, .int s1.2)]) hx hb dX3_namedBy_39 rfl hl (by decide) rfl (fun ls hl => ?_)
          refine lv_iinc (v := (s1.2 + (1 : Int32))) (lv' := [(3, .int (s1.2 + (1 : Int32))), (2, .int (s1.1 ||| j5)), (0, .ref (a 5)), (1, .int p0)]) hx hb dX3_namedBy_40 hl (k := 3) rfl rfl (by decide) rfl (fun ls hl => ?_)
          refine lv_goto (tgt := 4) hx hb dX3_namedBy_43 (by decide) ?_
          have he := jx_eq hf
          subst he
          exact ihk2 ((s1.1 ||| j5), (s1.2 + (1 : Int32))) _ _ _ hgk2 hP hD hS (lv_sub hl [2, 3, 1, 0] rfl)
        refine lv_icmp_eq (tgt := 37) hx hb dX3_namedBy_22 (by decide) (fun hq => ?_) (fun hq => ?_)
        · replace hf := jx_pos hq hf
          refine lv_iconst (v := 0) hx hb dX3_namedBy_37 (by decide) ?_
          have he := jx_eq hf
          subst he
          exact hJj5 _ _ _ hP hD hS (lv_sub hl [1, 2, 4] rfl)
        · replace hf := jx_neg hq hf
          refine lv_iload hx hb dX3_namedBy_25 (lv_at hl 0 rfl) ?_
          refine lv_iconst (v := 1) hx hb dX3_namedBy_27 (by decide) ?_
          refine lv_icmp_gt (tgt := 37) hx hb dX3_namedBy_28 (by decide) (fun hq => ?_) (fun hq => ?_)
          · replace hf := jx_pos hq hf
            refine lv_iconst (v := 0) hx hb dX3_namedBy_37 (by decide) ?_
            have he := jx_eq hf
            subst he
            exact hJj5 _ _ _ hP hD hS (lv_sub hl [1, 2, 4] rfl)
          · replace hf := jx_neg hq hf
            refine lv_iconst (v := 1) hx hb dX3_namedBy_31 (by decide) ?_
            refine lv_iload_n hx hb dX3_namedBy_32 rfl (lv_at hl 4 rfl) ?_
            refine lv_ishl hx hb dX3_namedBy_33 ?_
            refine lv_goto (tgt := 38) hx hb dX3_namedBy_34 (by decide) ?_
            have he := jx_eq hf
            subst he
            exact hJj5 _ _ _ hP hD hS (lv_sub hl [1, 2, 4] rfl)
  exact hLk2 jx_F ((0 : Int32), (0 : Int32)) _ _ _ hf hP hD hS (lv_sub hl [2, 3, 1, 0] rfl)
set_option maxHeartbeats 4000000 in
set_option maxRecDepth 100000 in
theorem c_X3_namesOf (l : Launch) (D : va_G) (a : Nat → Nat) (cI cL : ClassId) (un : (Nat → Int32)) (ow : (Nat → Int64)) (ki : (Nat → Int32)) (th : (Nat → Int64)) (cm : (Nat → Int64)) (tr : Int32) (tl : Int32) (ch : Int32) (p0 : Int32) (res : Int32) (hf : pf_X3_namesOf ki p0 = some res) : jMi l yX3_namesOf wsX3_namesOf ({ frames := 2, cells := 0, slots := 0, locals := 46 }) D [(cI, .int), (cL, .long)] [.ref (a 5), .int p0] (wPt a cI cL un ow ki th cm tr tl ch) res (wPt a cI cL un ow ki th cm tr tl ch) := by
  intro sz
  refine Met.ofW (cc := cX3_namesOf) (maxL := 5) (ret := (some .int)) (by decide) rfl ?_
  intro p e s m args below meth c s₁ B hml hv
  obtain ⟨rfl, hsz, hP, hK, hD0, hN⟩ := hv
  have hx := B.exec
  have hb := B.bytes
  have hr := B.returns
  have hts := atoms_spec (ws := wsX3_namesOf) B.pre
  have hown : s.vm.findClass RX3 = some m.cls := findClass_of_methodNamed B.named
  have hlocks := B.notSynchronized
  subst hsz
  have hD := hD0.self (sz := s.heap.size)
  generalize hAe : va_A (wPt a cI cL un ow ki th cm tr tl ch) s.heap.size = A at hD ⊢
  have hA : ∀ q : Nat, s.heap.size ≤ q → A q := fun q h => by rw [← hAe]; exact Or.inr h
  have hS : va_S A s.heap s.heap [] := va_S.rf
  have hl := lv_entry ([.ref (a 5), .int p0]) (n := 5) (Nat.le_of_ble_eq_true rfl)
  rw [lg_entry_eq]
  generalize (lg_sl ([.ref (a 5), .int p0]) ++ List.replicate (5 - (lg_sl ([.ref (a 5), .int p0])).length) Slot.unset).toArray = ls at hl ⊢
  have hl : lv_has ls 5 [(0, .ref (a 5)), (1, .int p0)] := hl
  have hf : pf_X3_namesOf ki p0 = some res := hf
  refine lv_iconst (v := 1) hx hb dX3_namesOf_0 (by decide) ?_
  refine lv_iload_n hx hb dX3_namesOf_1 rfl (lv_at hl 1 rfl) ?_
  refine lv_ishl hx hb dX3_namesOf_2 ?_
  refine lv_istore_n (lv' := [(2, .int ((1 : Int32) <<< (p0 &&& 31))), (0, .ref (a 5)), (1, .int p0)]) hx hb dX3_namesOf_3 rfl hl (by decide) rfl (fun ls hl => ?_)
  refine lv_iconst (v := 0) hx hb dX3_namesOf_4 (by decide) ?_
  refine lv_istore_n (lv' := [(3, .int (0 : Int32)), (2, .int ((1 : Int32) <<< (p0 &&& 31))), (0, .ref (a 5)), (1, .int p0)]) hx hb dX3_namesOf_5 rfl hl (by decide) rfl (fun ls hl => ?_)
  obtain ⟨k2, hf, hkk2⟩ := jx_bs hf
  have hXk2 : ∀ (H : Heap) (locs : List Loc) (ls : Array Slot), va_P D vwCl (wPt a cI cL un ow ki th cm tr tl ch) H → va_D A (wPt a cI cL un ow ki th cm tr tl ch) → va_S A s.heap H locs → lv_has ls 5 [(1, .int p0), (2, .int k2)] → jx_Wi p l e wsX3_namesOf ({ frames := 2, cells := 0, slots := 0, locals := 46 }) s m [.ref (a 5), .int p0] below meth c D [(cI, .int), (cL, .long)] res (wPt a cI cL un ow ki th cm tr tl ch) A H locs (F0 m 57 ls []) := by
    clear hf hP hD hS hl
    intro H locs ls hP hD hS hl
    have hf := hkk2
    refine lv_iload_n hx hb dX3_namesOf_57 rfl (lv_at hl 1 rfl) ?_
    refine lv_iconst (v := 1) hx hb dX3_namesOf_58 (by decide) ?_
    refine lv_iload_n hx hb dX3_namesOf_59 rfl (lv_at hl 0 rfl) ?_
    refine lv_ishl hx hb dX3_namesOf_60 ?_
    refine lv_iconst (v := -1) hx hb dX3_namesOf_61 (by decide) ?_
    refine lv_ixor hx hb dX3_namesOf_62 ?_
    refine lv_iand hx hb dX3_namesOf_63 ?_
    have he := jx_eq hf
    subst he
    exact jx_reti hx hb hr hlocks rfl hK hP hD hS dX3_namesOf_64
  have hLk2 : ∀ (n : Nat) (s1 : (Int32 × Int32)) (H : Heap) (locs : List Loc) (ls : Array Slot), jx_iter (pf_X3_namesOf_s1 ki) n s1 = some k2 → va_P D vwCl (wPt a cI cL un ow ki th cm tr tl ch) H → va_D A (wPt a cI cL un ow ki th cm tr tl ch) → va_S A s.heap H locs → lv_has ls 5 [(0, .ref (a 5)), (1, .int p0), (2, .int s1.1), (3, .int s1.2)] → jx_Wi p l e wsX3_namesOf ({ frames := 2, cells := 0, slots := 0, locals := 46 }) s m [.ref (a 5), .int p0] below meth c D [(cI, .int), (cL, .long)] res (wPt a cI cL un ow ki th cm tr tl ch) A H locs (F0 m 6 ls []) := by
    clear hf hP hD hS hl
    intro n
    induction n with
    | zero => intro s1 _ _ _ hf; cases hf
    | succ n ihk2 =>
      intro s1 H locs ls hf hP hD hS hl
      obtain ⟨q3, hf, hgk2⟩ := jx_bs hf
      refine lv_iload_n hx hb dX3_namesOf_6 rfl (lv_at hl 3 rfl) ?_
      refine lv_bipush (v := 8) hx hb dX3_namesOf_7 (by decide) ?_
      refine lv_icmp_ge (tgt := 57) hx hb dX3_namesOf_9 (by decide) (fun hq => ?_) (fun hq => ?_)
      · replace hf := jx_pos hq hf
        have he := jx_eq hf
        subst he
        have he : _ = k2 := jx_eq hgk2
        subst he
        exact hXk2 _ _ _ hP hD hS (lv_sub hl [1, 2] rfl)
      · replace hf := jx_neg hq hf
        refine lv_iconst (v := 0) hx hb dX3_namesOf_12 (by decide) ?_
        refine lv_istore (lv' := [(4, .int (0 : Int32)), (0, .ref (a 5)), (1, .int p0), (2, .int s1.1), (3, .int s1.2)]) hx hb dX3_namesOf_13 hl (by decide) rfl (fun ls hl => ?_)
        obtain ⟨k5, hf, hkk5⟩ := jx_bs hf
        have hXk5 : ∀ (H : Heap) (locs : List Loc) (ls : Array Slot), va_P D vwCl (wPt a cI cL un ow ki th cm tr tl ch) H → va_D A (wPt a cI cL un ow ki th cm tr tl ch) → va_S A s.heap H locs → lv_has ls 5 [(0, .ref (a 5)), (1, .int p0), (2, .int k5), (3, .int s1.2)] → jx_Wi p l e wsX3_namesOf ({ frames := 2, cells := 0, slots := 0, locals := 46 }) s m [.ref (a 5), .int p0] below meth c D [(cI, .int), (cL, .long)] res (wPt a cI cL un ow ki th cm tr tl ch) A H locs (F0 m 51 ls []) := by
          clear hf hP hD hS hl
          intro H locs ls hP hD hS hl
          have hf := hkk5
          refine lv_iinc (v := (s1.2 + (1 : Int32))) (lv' := [(3, .int (s1.2 + (1 : Int32))), (0, .ref (a 5)), (1, .int p0), (2, .int k5)]) hx hb dX3_namesOf_51 hl (k := 3) rfl rfl (by decide) rfl (fun ls hl => ?_)
          refine lv_goto (tgt := 6) hx hb dX3_namesOf_54 (by decide) ?_
          have he := jx_eq hf
          subst he
          exact ihk2 (k5, (s1.2 + (1 : Int32))) _ _ _ hgk2 hP hD hS (lv_sub hl [1, 2, 3, 0] rfl)
        have hLk5 : ∀ (n : Nat) (s4 : (Int32 × Int32)) (H : Heap) (locs : List Loc) (ls : Array Slot), jx_iter (pf_X3_namesOf_s2 ki) n s4 = some k5 → va_P D vwCl (wPt a cI cL un ow ki th cm tr tl ch) H → va_D A (wPt a cI cL un ow ki th cm tr tl ch) → va_S A s.heap H locs → lv_has ls 5 [(0, .ref (a 5)), (1, .int p0), (2, .int s4.1), (3, .int s1.2), (4, .int s4.2)] → jx_Wi p l e wsX3_namesOf ({ frames := 2, cells := 0, slots := 0, locals := 46 }) s m [.ref (a 5), .int p0] below meth c D [(cI, .int), (cL, .long)] res (wPt a cI cL un ow ki th cm tr tl ch) A H locs (F0 m 15 ls []) := by
          clear hf hP hD hS hl
          intro n
          induction n with
          | zero => intro s4 _ _ _ hf; cases hf
          | succ n ihk5 =>
            intro s4 H locs ls hf hP hD hS hl
            obtain ⟨q6, hf, hgk5⟩ := jx_bs hf
            refine lv_iload hx hb dX3_namesOf_15 (lv_at hl 4 rfl) ?_
            refine lv_bipush (v := 8) hx hb dX3_namesOf_17 (by decide) ?_
            refine lv_icmp_ge (tgt := 51) hx hb dX3_namesOf_19 (by decide) (fun hq => ?_) (fun hq => ?_)
            · replace hf := jx_pos hq hf
              have he := jx_eq hf
              subst he
              have he : _ = k5 := jx_eq hgk5
              subst he
              exact hXk5 _ _ _ hP hD hS (lv_sub hl [0, 1, 2, 3] rfl)
            · replace hf := jx_neg hq hf
              refine lv_iload_n hx hb dX3_namesOf_22 rfl (lv_at hl 2 rfl) ?_
              refine lv_iload_n hx hb dX3_namesOf_23 rfl (lv_at hl 2 rfl) ?_
              refine lv_i2l (v := (s4.1).toInt64) hx hb dX3_namesOf_24 rfl ?_
              refine lv_iload hx hb dX3_namesOf_25 (lv_at hl 4 rfl) ?_
              obtain ⟨r7, hc, hf⟩ := jx_bs hf
              refine jx_ki (wr := [((a 5), .inr (3, [.ref (a 6), .ref (a 7), .ref (a 8), .ref (a 9), .ref (a 10), .int tr, .int tl, .int ch])), ((a 6), .inl (cI, 8, .inl un)), ((a 7), .inl (cL, 8, .inr (.inl ow))), ((a 8), .inl (cI, 64, .inl ki)), ((a 9), .inl (cL, 64, .inr (.inl th))), ((a 10), .inl (cL, 8, .inr (.inl cm)))]) (ws2 := (wPt a cI cL un ow ki th cm tr tl ch)) (jx_runSN (As := [.long (s4.1).toInt64, .int s4.2]) (rest := [.int s4.1]) ⟨hx, hb, hml, hown, hts⟩ (c_X6_isSet l D a cI cL (s4.1).toInt64 s4.2 r7 hc _) (va_cnB 2 hts gX3_namesOf_X6_isSet_n44 rfl rfl rfl (hN (.methodLinkNest "PassedDuties$Parts" 44 yX6_isSet "PassedDuties") (by decide +kernel)) (hts (.initialized RX6) (by decide +kernel)) (by decide +kernel) ⟨Nat.le_of_ble_eq_true rfl, Nat.le_of_ble_eq_true rfl⟩) (hts (.static yX6_isSet) (by decide +kernel)) hK hN hP hD [] rfl (by decide) rfl hl.1 rfl (Nat.le_of_ble_eq_true rfl) dX3_namesOf_27 ⟨Nat.le_of_ble_eq_true rfl, Nat.le_of_ble_eq_true rfl⟩) hP hD hS hA [] [0, 1, 2, 3, 4, 5] [0, 1, 2, 3, 4, 5] rfl rfl (by decide) (by decide) rfl (by decide) (fun H locs hP hD hS => ?_)
              clear hc
              obtain ⟨j8, hf, hkj8⟩ := jx_bs hf
              have hJj8 : ∀ (H : Heap) (locs : List Loc) (ls : Array Slot), va_P D vwCl (wPt a cI cL un ow ki th cm tr tl ch) H → va_D A (wPt a cI cL un ow ki th cm tr tl ch) → va_S A s.heap H locs → lv_has ls 5 [(0, .ref (a 5)), (1, .int p0), (3, .int s1.2), (4, .int s4.2)] → jx_Wi p l e wsX3_namesOf ({ frames := 2, cells := 0, slots := 0, locals := 46 }) s m [.ref (a 5), .int p0] below meth c D [(cI, .int), (cL, .long)] res (wPt a cI cL un ow ki th cm tr tl ch) A H locs (F0 m 43 ls [.int j8, .int s4.1]) := by
                clear hf hP hD hS hl
                intro H locs ls hP hD hS hl
                have hf := hkj8
                refine lv_ior hx hb dX3_namesOf_43 ?_
                refine lv_istore_n (lv' := [(2, .int (s4.1 ||| j8)), (0, .ref (a 5)), (1, .int p0), (3, .int s1.2), (4, .int s4.2)]) hx hb dX3_namesOf_44 rfl hl (by decide) rfl (fun ls hl => ?_)
                refine lv_iinc (v := (s4.2 + (1 : Int32))) (lv' := [(4, .int (s4.2 + (1 : Int32))), (2, .int (s4.1 ||| j8)), (0, .ref (a 5)), (1, .int p0), (3, .int s1.2)]) hx hb dX3_namesOf_45 hl (k := 4) rfl rfl (by decide) rfl (fun ls hl => ?_)
                refine lv_goto (tgt := 15) hx hb dX3_namesOf_48 (by decide) ?_
                have he := jx_eq hf
                subst he
                exact ihk5 ((s4.1 ||| j8), (s4.2 + (1 : Int32))) _ _ _ hgk5 hP hD hS (lv_sub hl [2, 3, 1, 4, 0] rfl)
              refine lv_if_eq (tgt := 42) hx hb dX3_namesOf_30 (by decide) (fun hq => ?_) (fun hq => ?_)
              · replace hf := jx_pos hq hf
                refine lv_iconst (v := 0) hx hb dX3_namesOf_42 (by decide) ?_
                have he := jx_eq hf
                subst he
                exact hJj8 _ _ _ hP hD hS (lv_sub hl [0, 1, 3, 4] rfl)
              · replace hf := jx_neg hq hf
                refine lv_aload_n hx hb dX3_namesOf_33 rfl (lv_at hl 0 rfl) ?_
                refine lv_iload hx hb dX3_namesOf_34 (lv_at hl 4 rfl) ?_
                obtain ⟨r9, hc, hf⟩ := jx_bs hf
                refine jx_ki (wr := []) (ws2 := (wPt a cI cL un ow ki th cm tr tl ch)) (jx_runV (As := [.int s4.2]) (rest := [.int s4.1]) ⟨hx, hb, hml, hown, hts⟩ (c_X3_namedBy l D a cI cL un ow ki th cm tr tl ch s4.2 r9 hc _) (cwV 1 hts gX3_namesOf_X3_namedBy rfl rfl rfl (by decide +kernel) ⟨Nat.le_of_ble_eq_true rfl, Nat.le_of_ble_eq_true rfl⟩) hK hN hP hD [0, 1, 2, 3, 4, 5] rfl (by decide) 0 3 rfl rfl rfl hl.1 rfl (Nat.le_of_ble_eq_true rfl) dX3_namesOf_36 ⟨Nat.le_of_ble_eq_true rfl, Nat.le_of_ble_eq_true rfl⟩) hP hD hS hA [0, 1, 2, 3, 4, 5] [] [0, 1, 2, 3, 4, 5] rfl rfl (by decide) (by decide) rfl (by decide) (fun H locs hP hD hS => ?_)
                clear hc
                refine lv_goto (tgt := 43) hx hb dX3_namesOf_39 (by decide) ?_
                have he := jx_eq hf
                subst he
                exact hJj8 _ _ _ hP hD hS (lv_sub hl [0, 1, 3, 4] rfl)
        exact hLk5 jx_F (s1.1, (0 : Int32)) _ _ _ hf hP hD hS (lv_sub hl [1, 2, 3, 4, 0] rfl)
  exact hLk2 jx_F (((1 : Int32) <<< (p0 &&& 31)), (0 : Int32)) _ _ _ hf hP hD hS (lv_sub hl [2, 3, 1, 0] rfl)
theorem iw_X3_settle_X3 : ∀ w ∈ wsX30, w ∈ wsX3_settle := by decide +kernel
set_option maxHeartbeats 4000000 in
set_option maxRecDepth 100000 in
theorem c_X3_settle (l : Launch) (D : va_G) (a : Nat → Nat) (cI cL : ClassId) (un : (Nat → Int32)) (ow : (Nat → Int64)) (ki : (Nat → Int32)) (th : (Nat → Int64)) (cm : (Nat → Int64)) (tr : Int32) (tl : Int32) (ch : Int32) (res : ((Nat → Int64) × Int32)) (hf : pf_X3_settle ow th cm tr ch = some res) : jMv l yX3_settle wsX3_settle ({ frames := 2, cells := 0, slots := 0, locals := 52 }) D [(cI, .int), (cL, .long)] [.ref (a 5)] (wPt a cI cL un ow ki th cm tr tl ch) (wPt a cI cL un ow ki th res.1 tr tl res.2) := by
  intro sz
  refine Met.ofW (cc := cX3_settle) (maxL := 1) (ret := none) (by decide) rfl ?_
  intro p e s m args below meth c s₁ B hml hv
  obtain ⟨rfl, hsz, hP, hK, hD0, hN⟩ := hv
  have hx := B.exec
  have hb := B.bytes
  have hr := B.returns
  have hts := atoms_spec (ws := wsX3_settle) B.pre
  have hown : s.vm.findClass RX3 = some m.cls := findClass_of_methodNamed B.named
  have hlocks := B.notSynchronized
  subst hsz
  have hD := hD0.self (sz := s.heap.size)
  generalize hAe : va_A (wPt a cI cL un ow ki th cm tr tl ch) s.heap.size = A at hD ⊢
  have hA : ∀ q : Nat, s.heap.size ≤ q → A q := fun q h => by rw [← hAe]; exact Or.inr h
  have hS : va_S A s.heap s.heap [] := va_S.rf
  have hl := lv_entry ([.ref (a 5)]) (n := 1) (Nat.le_of_ble_eq_true rfl)
  rw [lg_entry_eq]
  generalize (lg_sl ([.ref (a 5)]) ++ List.replicate (1 - (lg_sl ([.ref (a 5)])).length) Slot.unset).toArray = ls at hl ⊢
  have hl : lv_has ls 1 [(0, .ref (a 5))] := hl
  have hf : pf_X3_settle ow th cm tr ch = some res := hf
  refine lv_aload_n hx hb dX3_settle_0 rfl (lv_at hl 0 rfl) ?_
  refine lv_dup hx hb dX3_settle_1 rfl ?_
  refine va_get (D := D) (ci := 3) (v := .int ch) (C := RX3) (T := TX3) (N := 8) hx hb hts iw_X3_settle_X3 hown hK hP 0 rfl rfl 7 (by decide) (hts (.fieldLink RX3 35 "PassedDuties$Parts" "changes" "I") (by decide +kernel)) (fun _ h9 => h9) rfl dX3_settle_2 ?_
  refine lv_iconst (v := 1) hx hb dX3_settle_5 (by decide) ?_
  refine lv_iadd hx hb dX3_settle_6 ?_
  refine va_put (D := D) (ci := 3) (v := .int (ch + (1 : Int32))) (ty := .int) (C := RX3) (T := TX3) (N := 8) hx hb hts iw_X3_settle_X3 tyX3 tyX3_ok nmX3 hown hK hP hD hS 0 rfl rfl 7 (by decide) (hts (.fieldLink RX3 35 "PassedDuties$Parts" "changes" "I") (by decide +kernel)) (fun _ h9 => h9) rfl (by decide +kernel) rfl rfl (Nat.le_of_ble_eq_true rfl) dX3_settle_7 (fun H locs hP hD hS => ?_)
  have hP : va_P D vwCl (wPt a cI cL un ow ki th cm tr tl (ch + (1 : Int32))) H := hP
  have hD : va_D A (wPt a cI cL un ow ki th cm tr tl (ch + (1 : Int32))) := hD
  refine lv_aload_n hx hb dX3_settle_10 rfl (lv_at hl 0 rfl) ?_
  refine lv_aload_n hx hb dX3_settle_11 rfl (lv_at hl 0 rfl) ?_
  refine va_get (D := D) (ci := 3) (v := .int tr) (C := RX3) (T := TX3) (N := 8) hx hb hts iw_X3_settle_X3 hown hK hP 0 rfl rfl 5 (by decide) (hts (.fieldLink RX3 28 "PassedDuties$Parts" "there" "I") (by decide +kernel)) (fun _ h9 => h9) rfl dX3_settle_12 ?_
  refine lv_aload_n hx hb dX3_settle_15 rfl (lv_at hl 0 rfl) ?_
  refine va_get (D := D) (ci := 3) (v := .ref (a 10)) (C := RX3) (T := TX3) (N := 8) hx hb hts iw_X3_settle_X3 hown hK hP 0 rfl rfl 4 (by decide) (hts (.fieldLink RX3 25 "PassedDuties$Parts" "come" "[J") (by decide +kernel)) (fun _ h9 => h9) rfl dX3_settle_16 ?_
  obtain ⟨r1, hc, hf⟩ := jx_bs hf
  refine jx_kv (wr := [((a 6), .inl (cI, 8, .inl un)), ((a 8), .inl (cI, 64, .inl ki))]) (ws2 := (wPt a cI cL un ow ki th r1 tr tl (ch + (1 : Int32)))) (jx_runV (As := [.int tr, .ref (a 10)]) (rest := []) ⟨hx, hb, hml, hown, hts⟩ (c_X3_spread l D a (a 10) cI cL ow th tr tl (ch + (1 : Int32)) cm tr r1 hc _) (cwV 2 hts gX3_settle_X3_spread rfl rfl rfl (by decide +kernel) ⟨Nat.le_of_ble_eq_true rfl, Nat.le_of_ble_eq_true rfl⟩) hK hN hP hD [0, 2, 4, 5] rfl (by decide) 0 3 rfl rfl rfl hl.1 rfl (Nat.le_of_ble_eq_true rfl) dX3_settle_19 ⟨Nat.le_of_ble_eq_true rfl, Nat.le_of_ble_eq_true rfl⟩) hP hD hS hA [0, 2, 4, 5] [1, 3] [2, 0, 3, 1, 4, 5] rfl rfl (by decide) (by decide) rfl (by decide) (fun H locs hP hD hS => ?_)
  clear hc
  have he := jx_eq hf
  subst he
  exact jx_retv hx hb hr hlocks hK hP hD hS dX3_settle_22
theorem iw_X3_put_X3 : ∀ w ∈ wsX30, w ∈ wsX3_put := by decide +kernel
set_option maxHeartbeats 4000000 in
set_option maxRecDepth 100000 in
theorem c_X3_put (l : Launch) (D : va_G) (a : Nat → Nat) (cI cL : ClassId) (un : (Nat → Int32)) (ow : (Nat → Int64)) (ki : (Nat → Int32)) (th : (Nat → Int64)) (cm : (Nat → Int64)) (tr : Int32) (tl : Int32) (ch : Int32) (p0 : Int32) (p1 : Int32) (p2 : Int64) (res : ((Nat → Int32) × (Nat → Int64) × (Nat → Int64) × Int32 × Int32)) (hf : pf_X3_put un ow th cm tr ch p0 p1 p2 = some res) : jMv l yX3_put wsX3_put ({ frames := 3, cells := 0, slots := 0, locals := 72 }) D [(cI, .int), (cL, .long)] [.ref (a 5), .int p0, .int p1, .long p2] (wPt a cI cL un ow ki th cm tr tl ch) (wPt a cI cL res.1 res.2.1 ki th res.2.2.1 res.2.2.2.1 tl res.2.2.2.2) := by
  intro sz
  refine Met.ofW (cc := cX3_put) (maxL := 5) (ret := none) (by decide) rfl ?_
  intro p e s m args below meth c s₁ B hml hv
  obtain ⟨rfl, hsz, hP, hK, hD0, hN⟩ := hv
  have hx := B.exec
  have hb := B.bytes
  have hr := B.returns
  have hts := atoms_spec (ws := wsX3_put) B.pre
  have hown : s.vm.findClass RX3 = some m.cls := findClass_of_methodNamed B.named
  have hlocks := B.notSynchronized
  subst hsz
  have hD := hD0.self (sz := s.heap.size)
  generalize hAe : va_A (wPt a cI cL un ow ki th cm tr tl ch) s.heap.size = A at hD ⊢
  have hA : ∀ q : Nat, s.heap.size ≤ q → A q := fun q h => by rw [← hAe]; exact Or.inr h
  have hS : va_S A s.heap s.heap [] := va_S.rf
  have hl := lv_entry ([.ref (a 5), .int p0, .int p1, .long p2]) (n := 5) (Nat.le_of_ble_eq_true rfl)
  rw [lg_entry_eq]
  generalize (lg_sl ([.ref (a 5), .int p0, .int p1, .long p2]) ++ List.replicate (5 - (lg_sl ([.ref (a 5), .int p0, .int p1, .long p2])).length) Slot.unset).toArray = ls at hl ⊢
  have hl : lv_has ls 5 [(0, .ref (a 5)), (1, .int p0), (2, .int p1), (3, .long p2)] := hl
  have hf : pf_X3_put un ow th cm tr ch p0 p1 p2 = some res := hf
  refine lv_aload_n hx hb dX3_put_0 rfl (lv_at hl 0 rfl) ?_
  refine lv_dup hx hb dX3_put_1 rfl ?_
  refine va_get (D := D) (ci := 3) (v := .int tr) (C := RX3) (T := TX3) (N := 8) hx hb hts iw_X3_put_X3 hown hK hP 0 rfl rfl 5 (by decide) (hts (.fieldLink RX3 28 "PassedDuties$Parts" "there" "I") (by decide +kernel)) (fun _ h9 => h9) rfl dX3_put_2 ?_
  refine lv_iconst (v := 1) hx hb dX3_put_5 (by decide) ?_
  refine lv_iload_n hx hb dX3_put_6 rfl (lv_at hl 1 rfl) ?_
  refine lv_ishl hx hb dX3_put_7 ?_
  refine lv_ior hx hb dX3_put_8 ?_
  refine va_put (D := D) (ci := 3) (v := .int (tr ||| ((1 : Int32) <<< (p0 &&& 31)))) (ty := .int) (C := RX3) (T := TX3) (N := 8) hx hb hts iw_X3_put_X3 tyX3 tyX3_ok nmX3 hown hK hP hD hS 0 rfl rfl 5 (by decide) (hts (.fieldLink RX3 28 "PassedDuties$Parts" "there" "I") (by decide +kernel)) (fun _ h9 => h9) rfl (by decide +kernel) rfl rfl (Nat.le_of_ble_eq_true rfl) dX3_put_9 (fun H locs hP hD hS => ?_)
  have hP : va_P D vwCl (wPt a cI cL un ow ki th cm (tr ||| ((1 : Int32) <<< (p0 &&& 31))) tl ch) H := hP
  have hD : va_D A (wPt a cI cL un ow ki th cm (tr ||| ((1 : Int32) <<< (p0 &&& 31))) tl ch) := hD
  refine lv_aload_n hx hb dX3_put_12 rfl (lv_at hl 0 rfl) ?_
  refine va_get (D := D) (ci := 3) (v := .ref (a 6)) (C := RX3) (T := TX3) (N := 8) hx hb hts iw_X3_put_X3 hown hK hP 0 rfl rfl 0 (by decide) (hts (.fieldLink RX3 9 "PassedDuties$Parts" "under" "[I") (by decide +kernel)) (fun _ h9 => h9) rfl dX3_put_13 ?_
  refine lv_iload_n hx hb dX3_put_16 rfl (lv_at hl 1 rfl) ?_
  refine lv_iload_n hx hb dX3_put_17 rfl (lv_at hl 2 rfl) ?_
  obtain ⟨hi, hf⟩ := jx_gs hf
  refine va_iast hx hb hK hP hD hS 1 0 rfl rfl (jx_ip hi) dX3_put_18 (fun H locs hP hD hS => ?_)
  clear hi
  have hP : va_P D vwCl (wPt a cI cL (upd un (p0).toNatClampNeg p1) ow ki th cm (tr ||| ((1 : Int32) <<< (p0 &&& 31))) tl ch) H := hP
  have hD : va_D A (wPt a cI cL (upd un (p0).toNatClampNeg p1) ow ki th cm (tr ||| ((1 : Int32) <<< (p0 &&& 31))) tl ch) := hD
  refine lv_aload_n hx hb dX3_put_19 rfl (lv_at hl 0 rfl) ?_
  refine va_get (D := D) (ci := 3) (v := .ref (a 7)) (C := RX3) (T := TX3) (N := 8) hx hb hts iw_X3_put_X3 hown hK hP 0 rfl rfl 1 (by decide) (hts (.fieldLink RX3 15 "PassedDuties$Parts" "own" "[J") (by decide +kernel)) (fun _ h9 => h9) rfl dX3_put_20 ?_
  refine lv_iload_n hx hb dX3_put_23 rfl (lv_at hl 1 rfl) ?_
  refine lv_lload_n hx hb dX3_put_24 rfl (lv_at hl 3 rfl) ?_
  obtain ⟨hi, hf⟩ := jx_gs hf
  refine va_last hx hb hK hP hD hS 2 1 rfl rfl (jx_ip hi) dX3_put_25 (fun H locs hP hD hS => ?_)
  clear hi
  have hP : va_P D vwCl (wPt a cI cL (upd un (p0).toNatClampNeg p1) (vp_updL ow (p0).toNatClampNeg p2) ki th cm (tr ||| ((1 : Int32) <<< (p0 &&& 31))) tl ch) H := hP
  have hD : va_D A (wPt a cI cL (upd un (p0).toNatClampNeg p1) (vp_updL ow (p0).toNatClampNeg p2) ki th cm (tr ||| ((1 : Int32) <<< (p0 &&& 31))) tl ch) := hD
  refine lv_aload_n hx hb dX3_put_26 rfl (lv_at hl 0 rfl) ?_
  obtain ⟨r1, hc, hf⟩ := jx_bs hf
  refine jx_kv (wr := []) (ws2 := (wPt a cI cL (upd un (p0).toNatClampNeg p1) (vp_updL ow (p0).toNatClampNeg p2) ki th r1.1 (tr ||| ((1 : Int32) <<< (p0 &&& 31))) tl r1.2)) (jx_runV (As := []) (rest := []) ⟨hx, hb, hml, hown, hts⟩ (c_X3_settle l D a cI cL (upd un (p0).toNatClampNeg p1) (vp_updL ow (p0).toNatClampNeg p2) ki th cm (tr ||| ((1 : Int32) <<< (p0 &&& 31))) tl ch r1 hc _) (cwV 0 hts gX3_put_X3_settle rfl rfl rfl (by decide +kernel) ⟨Nat.le_of_ble_eq_true rfl, Nat.le_of_ble_eq_true rfl⟩) hK hN hP hD [0, 1, 2, 3, 4, 5] rfl (by decide) 0 3 rfl rfl rfl hl.1 rfl (Nat.le_of_ble_eq_true rfl) dX3_put_27 ⟨Nat.le_of_ble_eq_true rfl, Nat.le_of_ble_eq_true rfl⟩) hP hD hS hA [0, 1, 2, 3, 4, 5] [] [0, 1, 2, 3, 4, 5] rfl rfl (by decide) (by decide) rfl (by decide) (fun H locs hP hD hS => ?_)
  clear hc
  have he := jx_eq hf
  subst he
  exact jx_retv hx hb hr hlocks hK hP hD hS dX3_put_30
theorem iw_X3_reachHeld_X3 : ∀ w ∈ wsX30, w ∈ wsX3_reachHeld := by decide +kernel
set_option maxHeartbeats 4000000 in
set_option maxRecDepth 100000 in
theorem c_X3_reachHeld (l : Launch) (D : va_G) (a : Nat → Nat) (cI cL : ClassId) (un : (Nat → Int32)) (ow : (Nat → Int64)) (ki : (Nat → Int32)) (th : (Nat → Int64)) (cm : (Nat → Int64)) (tr : Int32) (tl : Int32) (ch : Int32) (p0 : Int32) (p1 : Int32) (res : Int32) (hf : pf_X3_reachHeld cm p0 p1 = some res) : jMi l yX3_reachHeld wsX3_reachHeld ({ frames := 2, cells := 0, slots := 0, locals := 45 }) D [(cI, .int), (cL, .long)] [.ref (a 5), .int p0, .int p1] (wPt a cI cL un ow ki th cm tr tl ch) res (wPt a cI cL un ow ki th cm tr tl ch) := by
  intro sz
  refine Met.ofW (cc := cX3_reachHeld) (maxL := 3) (ret := (some .int)) (by decide) rfl ?_
  intro p e s m args below meth c s₁ B hml hv
  obtain ⟨rfl, hsz, hP, hK, hD0, hN⟩ := hv
  have hx := B.exec
  have hb := B.bytes
  have hr := B.returns
  have hts := atoms_spec (ws := wsX3_reachHeld) B.pre
  have hown : s.vm.findClass RX3 = some m.cls := findClass_of_methodNamed B.named
  have hlocks := B.notSynchronized
  subst hsz
  have hD := hD0.self (sz := s.heap.size)
  generalize hAe : va_A (wPt a cI cL un ow ki th cm tr tl ch) s.heap.size = A at hD ⊢
  have hA : ∀ q : Nat, s.heap.size ≤ q → A q := fun q h => by rw [← hAe]; exact Or.inr h
  have hS : va_S A s.heap s.heap [] := va_S.rf
  have hl := lv_entry ([.ref (a 5), .int p0, .int p1]) (n := 3) (Nat.le_of_ble_eq_true rfl)
  rw [lg_entry_eq]
  generalize (lg_sl ([.ref (a 5), .int p0, .int p1]) ++ List.replicate (3 - (lg_sl ([.ref (a 5), .int p0, .int p1])).length) Slot.unset).toArray = ls at hl ⊢
  have hl : lv_has ls 3 [(0, .ref (a 5)), (1, .int p0), (2, .int p1)] := hl
  have hf : pf_X3_reachHeld cm p0 p1 = some res := hf
  refine lv_aload_n hx hb dX3_reachHeld_0 rfl (lv_at hl 0 rfl) ?_
  refine va_get (D := D) (ci := 3) (v := .ref (a 10)) (C := RX3) (T := TX3) (N := 8) hx hb hts iw_X3_reachHeld_X3 hown hK hP 0 rfl rfl 4 (by decide) (hts (.fieldLink RX3 25 "PassedDuties$Parts" "come" "[J") (by decide +kernel)) (fun _ h9 => h9) rfl dX3_reachHeld_1 ?_
  refine lv_iload_n hx hb dX3_reachHeld_4 rfl (lv_at hl 1 rfl) ?_
  obtain ⟨hi, hf⟩ := jx_gs hf
  refine va_lald hx hb hK hP 5 1 rfl rfl (jx_ip hi) dX3_reachHeld_5 ?_
  clear hi
  refine lv_iload_n hx hb dX3_reachHeld_6 rfl (lv_at hl 2 rfl) ?_
  obtain ⟨r1, hc, hf⟩ := jx_bs hf
  refine jx_ki (wr := [((a 5), .inr (3, [.ref (a 6), .ref (a 7), .ref (a 8), .ref (a 9), .ref (a 10), .int tr, .int tl, .int ch])), ((a 6), .inl (cI, 8, .inl un)), ((a 7), .inl (cL, 8, .inr (.inl ow))), ((a 8), .inl (cI, 64, .inl ki)), ((a 9), .inl (cL, 64, .inr (.inl th))), ((a 10), .inl (cL, 8, .inr (.inl cm)))]) (ws2 := (wPt a cI cL un ow ki th cm tr tl ch)) (jx_runS (As := [.long (cm (p0).toNatClampNeg), .int p1]) (rest := []) ⟨hx, hb, hml, hown, hts⟩ (c_X4_greatest l D a cI cL (cm (p0).toNatClampNeg) p1 r1 hc _) (va_cwS 2 hts gX3_reachHeld_X4_greatest rfl rfl rfl (by decide +kernel) ⟨Nat.le_of_ble_eq_true rfl, Nat.le_of_ble_eq_true rfl⟩) hK hN hP hD [] rfl (by decide) rfl hl.1 rfl (Nat.le_of_ble_eq_true rfl) dX3_reachHeld_7 ⟨Nat.le_of_ble_eq_true rfl, Nat.le_of_ble_eq_true rfl⟩) hP hD hS hA [] [0, 1, 2, 3, 4, 5] [0, 1, 2, 3, 4, 5] rfl rfl (by decide) (by decide) rfl (by decide) (fun H locs hP hD hS => ?_)
  clear hc
  have he := jx_eq hf
  subst he
  exact jx_reti hx hb hr hlocks rfl hK hP hD hS dX3_reachHeld_10
theorem iw_X3_setJoin_X3 : ∀ w ∈ wsX30, w ∈ wsX3_setJoin := by decide +kernel
set_option maxHeartbeats 4000000 in
set_option maxRecDepth 100000 in
theorem c_X3_setJoin (l : Launch) (D : va_G) (a : Nat → Nat) (cI cL : ClassId) (un : (Nat → Int32)) (ow : (Nat → Int64)) (ki : (Nat → Int32)) (th : (Nat → Int64)) (cm : (Nat → Int64)) (tr : Int32) (tl : Int32) (ch : Int32) (p0 : Int32) (p1 : Int32) (p2 : Int32) (res : ((Nat → Int32) × (Nat → Int64))) (hf : pf_X3_setJoin ki th p0 p1 p2 = some res) : jMv l yX3_setJoin wsX3_setJoin ({ frames := 1, cells := 0, slots := 0, locals := 20 }) D [(cI, .int), (cL, .long)] [.ref (a 5), .int p0, .int p1, .int p2] (wPt a cI cL un ow ki th cm tr tl ch) (wPt a cI cL un ow res.1 res.2 cm tr tl ch) := by
  intro sz
  refine Met.ofW (cc := cX3_setJoin) (maxL := 4) (ret := none) (by decide) rfl ?_
  intro p e s m args below meth c s₁ B hml hv
  obtain ⟨rfl, hsz, hP, hK, hD0, hN⟩ := hv
  have hx := B.exec
  have hb := B.bytes
  have hr := B.returns
  have hts := atoms_spec (ws := wsX3_setJoin) B.pre
  have hown : s.vm.findClass RX3 = some m.cls := findClass_of_methodNamed B.named
  have hlocks := B.notSynchronized
  subst hsz
  have hD := hD0.self (sz := s.heap.size)
  generalize hAe : va_A (wPt a cI cL un ow ki th cm tr tl ch) s.heap.size = A at hD ⊢
  have hA : ∀ q : Nat, s.heap.size ≤ q → A q := fun q h => by rw [← hAe]; exact Or.inr h
  have hS : va_S A s.heap s.heap [] := va_S.rf
  have hl := lv_entry ([.ref (a 5), .int p0, .int p1, .int p2]) (n := 4) (Nat.le_of_ble_eq_true rfl)
  rw [lg_entry_eq]
  generalize (lg_sl ([.ref (a 5), .int p0, .int p1, .int p2]) ++ List.replicate (4 - (lg_sl ([.ref (a 5), .int p0, .int p1, .int p2])).length) Slot.unset).toArray = ls at hl ⊢
  have hl : lv_has ls 4 [(0, .ref (a 5)), (1, .int p0), (2, .int p1), (3, .int p2)] := hl
  have hf : pf_X3_setJoin ki th p0 p1 p2 = some res := hf
  refine lv_aload_n hx hb dX3_setJoin_0 rfl (lv_at hl 0 rfl) ?_
  refine va_get (D := D) (ci := 3) (v := .ref (a 8)) (C := RX3) (T := TX3) (N := 8) hx hb hts iw_X3_setJoin_X3 hown hK hP 0 rfl rfl 2 (by decide) (hts (.fieldLink RX3 19 "PassedDuties$Parts" "kinds" "[I") (by decide +kernel)) (fun _ h9 => h9) rfl dX3_setJoin_1 ?_
  refine lv_iload_n hx hb dX3_setJoin_4 rfl (lv_at hl 1 rfl) ?_
  refine lv_bipush (v := 8) hx hb dX3_setJoin_5 (by decide) ?_
  refine lv_imul hx hb dX3_setJoin_7 ?_
  refine lv_iload_n hx hb dX3_setJoin_8 rfl (lv_at hl 2 rfl) ?_
  refine lv_iadd hx hb dX3_setJoin_9 ?_
  refine lv_iload_n hx hb dX3_setJoin_10 rfl (lv_at hl 3 rfl) ?_
  obtain ⟨hi, hf⟩ := jx_gs hf
  refine va_iast hx hb hK hP hD hS 3 0 rfl rfl (jx_ip hi) dX3_setJoin_11 (fun H locs hP hD hS => ?_)
  clear hi
  have hP : va_P D vwCl (wPt a cI cL un ow (upd ki (((p0 * (8 : Int32)) + p1)).toNatClampNeg p2) th cm tr tl ch) H := hP
  have hD : va_D A (wPt a cI cL un ow (upd ki (((p0 * (8 : Int32)) + p1)).toNatClampNeg p2) th cm tr tl ch) := hD
  refine lv_aload_n hx hb dX3_setJoin_12 rfl (lv_at hl 0 rfl) ?_
  refine va_get (D := D) (ci := 3) (v := .ref (a 9)) (C := RX3) (T := TX3) (N := 8) hx hb hts iw_X3_setJoin_X3 hown hK hP 0 rfl rfl 3 (by decide) (hts (.fieldLink RX3 22 "PassedDuties$Parts" "through" "[J") (by decide +kernel)) (fun _ h9 => h9) rfl dX3_setJoin_13 ?_
  refine lv_iload_n hx hb dX3_setJoin_16 rfl (lv_at hl 1 rfl) ?_
  refine lv_bipush (v := 8) hx hb dX3_setJoin_17 (by decide) ?_
  refine lv_imul hx hb dX3_setJoin_19 ?_
  refine lv_iload_n hx hb dX3_setJoin_20 rfl (lv_at hl 2 rfl) ?_
  refine lv_iadd hx hb dX3_setJoin_21 ?_
  refine lv_iload_n hx hb dX3_setJoin_22 rfl (lv_at hl 3 rfl) ?_
  obtain ⟨r1, hc, hf⟩ := jx_bs hf
  refine jx_kl (wr := [((a 5), .inr (3, [.ref (a 6), .ref (a 7), .ref (a 8), .ref (a 9), .ref (a 10), .int tr, .int tl, .int ch])), ((a 6), .inl (cI, 8, .inl un)), ((a 7), .inl (cL, 8, .inr (.inl ow))), ((a 8), .inl (cI, 64, .inl (upd ki (((p0 * (8 : Int32)) + p1)).toNatClampNeg p2))), ((a 9), .inl (cL, 64, .inr (.inl th))), ((a 10), .inl (cL, 8, .inr (.inl cm)))]) (ws2 := (wPt a cI cL un ow (upd ki (((p0 * (8 : Int32)) + p1)).toNatClampNeg p2) th cm tr tl ch)) (jx_runS (As := [.int p2]) (rest := [.int ((p0 * (8 : Int32)) + p1), .ref (a 9)]) ⟨hx, hb, hml, hown, hts⟩ (c_X4_letThrough l D a cI cL p2 r1 hc _) (va_cwS 1 hts gX3_setJoin_X4_letThrough rfl rfl rfl (by decide +kernel) ⟨Nat.le_of_ble_eq_true rfl, Nat.le_of_ble_eq_true rfl⟩) hK hN hP hD [] rfl (by decide) rfl hl.1 rfl (Nat.le_of_ble_eq_true rfl) dX3_setJoin_23 ⟨Nat.le_of_ble_eq_true rfl, Nat.le_of_ble_eq_true rfl⟩) hP hD hS hA [] [0, 1, 2, 3, 4, 5] [0, 1, 2, 3, 4, 5] rfl rfl (by decide) (by decide) rfl (by decide) (fun H locs hP hD hS => ?_)
  clear hc
  obtain ⟨hi, hf⟩ := jx_gs hf
  refine va_last hx hb hK hP hD hS 4 1 rfl rfl (jx_ip hi) dX3_setJoin_26 (fun H locs hP hD hS => ?_)
  clear hi
  have hP : va_P D vwCl (wPt a cI cL un ow (upd ki (((p0 * (8 : Int32)) + p1)).toNatClampNeg p2) (vp_updL th (((p0 * (8 : Int32)) + p1)).toNatClampNeg r1) cm tr tl ch) H := hP
  have hD : va_D A (wPt a cI cL un ow (upd ki (((p0 * (8 : Int32)) + p1)).toNatClampNeg p2) (vp_updL th (((p0 * (8 : Int32)) + p1)).toNatClampNeg r1) cm tr tl ch) := hD
  have he := jx_eq hf
  subst he
  exact jx_retv hx hb hr hlocks hK hP hD hS dX3_setJoin_27
theorem iw_X3_remove_X3 : ∀ w ∈ wsX30, w ∈ wsX3_remove := by decide +kernel
set_option maxHeartbeats 4000000 in
set_option maxRecDepth 100000 in
theorem c_X3_remove (l : Launch) (D : va_G) (a : Nat → Nat) (cI cL : ClassId) (un : (Nat → Int32)) (ow : (Nat → Int64)) (ki : (Nat → Int32)) (th : (Nat → Int64)) (cm : (Nat → Int64)) (tr : Int32) (tl : Int32) (ch : Int32) (p0 : Int32) (res : (Int32 × (Nat → Int32) × (Nat → Int64) × (Nat → Int64) × Int32 × Int32 × Int32)) (hf : pf_X3_remove ow ki th cm tr tl ch p0 = some res) : jMi l yX3_remove wsX3_remove ({ frames := 3, cells := 0, slots := 0, locals := 72 }) D [(cI, .int), (cL, .long)] [.ref (a 5), .int p0] (wPt a cI cL un ow ki th cm tr tl ch) res.1 (wPt a cI cL un ow res.2.1 res.2.2.1 res.2.2.2.1 res.2.2.2.2.1 res.2.2.2.2.2.1 res.2.2.2.2.2.2) := by
  intro sz
  refine Met.ofW (cc := cX3_remove) (maxL := 4) (ret := (some .int)) (by decide) rfl ?_
  intro p e s m args below meth c s₁ B hml hv
  obtain ⟨rfl, hsz, hP, hK, hD0, hN⟩ := hv
  have hx := B.exec
  have hb := B.bytes
  have hr := B.returns
  have hts := atoms_spec (ws := wsX3_remove) B.pre
  have hown : s.vm.findClass RX3 = some m.cls := findClass_of_methodNamed B.named
  have hlocks := B.notSynchronized
  subst hsz
  have hD := hD0.self (sz := s.heap.size)
  generalize hAe : va_A (wPt a cI cL un ow ki th cm tr tl ch) s.heap.size = A at hD ⊢
  have hA : ∀ q : Nat, s.heap.size ≤ q → A q := fun q h => by rw [← hAe]; exact Or.inr h
  have hS : va_S A s.heap s.heap [] := va_S.rf
  have hl := lv_entry ([.ref (a 5), .int p0]) (n := 4) (Nat.le_of_ble_eq_true rfl)
  rw [lg_entry_eq]
  generalize (lg_sl ([.ref (a 5), .int p0]) ++ List.replicate (4 - (lg_sl ([.ref (a 5), .int p0])).length) Slot.unset).toArray = ls at hl ⊢
  have hl : lv_has ls 4 [(0, .ref (a 5)), (1, .int p0)] := hl
  have hf : pf_X3_remove ow ki th cm tr tl ch p0 = some res := hf
  refine lv_aload_n hx hb dX3_remove_0 rfl (lv_at hl 0 rfl) ?_
  refine lv_iload_n hx hb dX3_remove_1 rfl (lv_at hl 1 rfl) ?_
  obtain ⟨r1, hc, hf⟩ := jx_bs hf
  refine jx_ki (wr := []) (ws2 := (wPt a cI cL un ow ki th cm tr tl ch)) (jx_runV (As := [.int p0]) (rest := []) ⟨hx, hb, hml, hown, hts⟩ (c_X3_joinsFrom l D a cI cL un ow ki th cm tr tl ch p0 r1 hc _) (cwV 1 hts gX3_remove_X3_joinsFrom rfl rfl rfl (by decide +kernel) ⟨Nat.le_of_ble_eq_true rfl, Nat.le_of_ble_eq_true rfl⟩) hK hN hP hD [0, 1, 2, 3, 4, 5] rfl (by decide) 0 3 rfl rfl rfl hl.1 rfl (Nat.le_of_ble_eq_true rfl) dX3_remove_2 ⟨Nat.le_of_ble_eq_true rfl, Nat.le_of_ble_eq_true rfl⟩) hP hD hS hA [0, 1, 2, 3, 4, 5] [] [0, 1, 2, 3, 4, 5] rfl rfl (by decide) (by decide) rfl (by decide) (fun H locs hP hD hS => ?_)
  clear hc
  refine lv_aload_n hx hb dX3_remove_5 rfl (lv_at hl 0 rfl) ?_
  refine lv_iload_n hx hb dX3_remove_6 rfl (lv_at hl 1 rfl) ?_
  obtain ⟨r2, hc, hf⟩ := jx_bs hf
  refine jx_ki (wr := []) (ws2 := (wPt a cI cL un ow ki th cm tr tl ch)) (jx_runV (As := [.int p0]) (rest := [.int r1]) ⟨hx, hb, hml, hown, hts⟩ (c_X3_joinsTo l D a cI cL un ow ki th cm tr tl ch p0 r2 hc _) (cwV 1 hts gX3_remove_X3_joinsTo rfl rfl rfl (by decide +kernel) ⟨Nat.le_of_ble_eq_true rfl, Nat.le_of_ble_eq_true rfl⟩) hK hN hP hD [0, 1, 2, 3, 4, 5] rfl (by decide) 0 3 rfl rfl rfl hl.1 rfl (Nat.le_of_ble_eq_true rfl) dX3_remove_7 ⟨Nat.le_of_ble_eq_true rfl, Nat.le_of_ble_eq_true rfl⟩) hP hD hS hA [0, 1, 2, 3, 4, 5] [] [0, 1, 2, 3, 4, 5] rfl rfl (by decide) (by decide) rfl (by decide) (fun H locs hP hD hS => ?_)
  clear hc
  refine lv_iadd hx hb dX3_remove_10 ?_
  refine lv_istore_n (lv' := [(2, .int (r1 + r2)), (0, .ref (a 5)), (1, .int p0)]) hx hb dX3_remove_11 rfl hl (by decide) rfl (fun ls hl => ?_)
  refine lv_iconst (v := 0) hx hb dX3_remove_12 (by decide) ?_
  refine lv_istore_n (lv' := [(3, .int (0 : Int32)), (2, .int (r1 + r2)), (0, .ref (a 5)), (1, .int p0)]) hx hb dX3_remove_13 rfl hl (by decide) rfl (fun ls hl => ?_)
  obtain ⟨k4, hf, hkk4⟩ := jx_bs hf
  have hXk4 : ∀ (H : Heap) (locs : List Loc) (ls : Array Slot), va_P D vwCl (wPt a cI cL un ow k4.1 k4.2 cm tr tl ch) H → va_D A (wPt a cI cL un ow k4.1 k4.2 cm tr tl ch) → va_S A s.heap H locs → lv_has ls 4 [(0, .ref (a 5)), (1, .int p0), (2, .int (r1 + r2))] → jx_Wi p l e wsX3_remove ({ frames := 3, cells := 0, slots := 0, locals := 72 }) s m [.ref (a 5), .int p0] below meth c D [(cI, .int), (cL, .long)] (res.1) (wPt a cI cL un ow res.2.1 res.2.2.1 res.2.2.2.1 res.2.2.2.2.1 res.2.2.2.2.2.1 res.2.2.2.2.2.2) A H locs (F0 m 40 ls []) := by
    clear hf hP hD hS hl
    intro H locs ls hP hD hS hl
    have hf := hkk4
    refine lv_aload_n hx hb dX3_remove_40 rfl (lv_at hl 0 rfl) ?_
    refine lv_dup hx hb dX3_remove_41 rfl ?_
    refine va_get (D := D) (ci := 3) (v := .int tr) (C := RX3) (T := TX3) (N := 8) hx hb hts iw_X3_remove_X3 hown hK hP 0 rfl rfl 5 (by decide) (hts (.fieldLink RX3 28 "PassedDuties$Parts" "there" "I") (by decide +kernel)) (fun _ h9 => h9) rfl dX3_remove_42 ?_
    refine lv_iconst (v := 1) hx hb dX3_remove_45 (by decide) ?_
    refine lv_iload_n hx hb dX3_remove_46 rfl (lv_at hl 1 rfl) ?_
    refine lv_ishl hx hb dX3_remove_47 ?_
    refine lv_iconst (v := -1) hx hb dX3_remove_48 (by decide) ?_
    refine lv_ixor hx hb dX3_remove_49 ?_
    refine lv_iand hx hb dX3_remove_50 ?_
    refine va_put (D := D) (ci := 3) (v := .int (tr &&& (((1 : Int32) <<< (p0 &&& 31)) ^^^ (-1 : Int32)))) (ty := .int) (C := RX3) (T := TX3) (N := 8) hx hb hts iw_X3_remove_X3 tyX3 tyX3_ok nmX3 hown hK hP hD hS 0 rfl rfl 5 (by decide) (hts (.fieldLink RX3 28 "PassedDuties$Parts" "there" "I") (by decide +kernel)) (fun _ h9 => h9) rfl (by decide +kernel) rfl rfl (Nat.le_of_ble_eq_true rfl) dX3_remove_51 (fun H locs hP hD hS => ?_)
    have hP : va_P D vwCl (wPt a cI cL un ow k4.1 k4.2 cm (tr &&& (((1 : Int32) <<< (p0 &&& 31)) ^^^ (-1 : Int32))) tl ch) H := hP
    have hD : va_D A (wPt a cI cL un ow k4.1 k4.2 cm (tr &&& (((1 : Int32) <<< (p0 &&& 31)) ^^^ (-1 : Int32))) tl ch) := hD
    refine lv_aload_n hx hb dX3_remove_54 rfl (lv_at hl 0 rfl) ?_
    refine lv_dup hx hb dX3_remove_55 rfl ?_
    refine va_get (D := D) (ci := 3) (v := .int tl) (C := RX3) (T := TX3) (N := 8) hx hb hts iw_X3_remove_X3 hown hK hP 0 rfl rfl 6 (by decide) (hts (.fieldLink RX3 32 "PassedDuties$Parts" "timesLeft" "I") (by decide +kernel)) (fun _ h9 => h9) rfl dX3_remove_56 ?_
    refine lv_iconst (v := 1) hx hb dX3_remove_59 (by decide) ?_
    refine lv_iadd hx hb dX3_remove_60 ?_
    refine va_put (D := D) (ci := 3) (v := .int (tl + (1 : Int32))) (ty := .int) (C := RX3) (T := TX3) (N := 8) hx hb hts iw_X3_remove_X3 tyX3 tyX3_ok nmX3 hown hK hP hD hS 0 rfl rfl 6 (by decide) (hts (.fieldLink RX3 32 "PassedDuties$Parts" "timesLeft" "I") (by decide +kernel)) (fun _ h9 => h9) rfl (by decide +kernel) rfl rfl (Nat.le_of_ble_eq_true rfl) dX3_remove_61 (fun H locs hP hD hS => ?_)
    have hP : va_P D vwCl (wPt a cI cL un ow k4.1 k4.2 cm (tr &&& (((1 : Int32) <<< (p0 &&& 31)) ^^^ (-1 : Int32))) (tl + (1 : Int32)) ch) H := hP
    have hD : va_D A (wPt a cI cL un ow k4.1 k4.2 cm (tr &&& (((1 : Int32) <<< (p0 &&& 31)) ^^^ (-1 : Int32))) (tl + (1 : Int32)) ch) := hD
    refine lv_aload_n hx hb dX3_remove_64 rfl (lv_at hl 0 rfl) ?_
    obtain ⟨r8, hc, hf⟩ := jx_bs hf
    refine jx_kv (wr := []) (ws2 := (wPt a cI cL un ow k4.1 k4.2 r8.1 (tr &&& (((1 : Int32) <<< (p0 &&& 31)) ^^^ (-1 : Int32))) (tl + (1 : Int32)) r8.2)) (jx_runV (As := []) (rest := []) ⟨hx, hb, hml, hown, hts⟩ (c_X3_settle l D a cI cL un ow k4.1 k4.2 cm (tr &&& (((1 : Int32) <<< (p0 &&& 31)) ^^^ (-1 : Int32))) (tl + (1 : Int32)) ch r8 hc _) (cwV 0 hts gX3_remove_X3_settle rfl rfl rfl (by decide +kernel) ⟨Nat.le_of_ble_eq_true rfl, Nat.le_of_ble_eq_true rfl⟩) hK hN hP hD [0, 1, 2, 3, 4, 5] rfl (by decide) 0 3 rfl rfl rfl hl.1 rfl (Nat.le_of_ble_eq_true rfl) dX3_remove_65 ⟨Nat.le_of_ble_eq_true rfl, Nat.le_of_ble_eq_true rfl⟩) hP hD hS hA [0, 1, 2, 3, 4, 5] [] [0, 1, 2, 3, 4, 5] rfl rfl (by decide) (by decide) rfl (by decide) (fun H locs hP hD hS => ?_)
    clear hc
    refine lv_iload_n hx hb dX3_remove_68 rfl (lv_at hl 2 rfl) ?_
    have he := jx_eq hf
    subst he
    exact jx_reti hx hb hr hlocks rfl hK hP hD hS dX3_remove_69
  have hLk4 : ∀ (n : Nat) (s3 : (Int32 × (Nat → Int32) × (Nat → Int64))) (H : Heap) (locs : List Loc) (ls : Array Slot), jx_iter (pf_X3_remove_s1 p0) n s3 = some k4 → va_P D vwCl (wPt a cI cL un ow s3.2.1 s3.2.2 cm tr tl ch) H → va_D A (wPt a cI cL un ow s3.2.1 s3.2.2 cm tr tl ch) → va_S A s.heap H locs → lv_has ls 4 [(0, .ref (a 5)), (1, .int p0), (2, .int (r1 + r2)), (3, .int s3.1)] → jx_Wi p l e wsX3_remove ({ frames := 3, cells := 0, slots := 0, locals := 72 }) s m [.ref (a 5), .int p0] below meth c D [(cI, .int), (cL, .long)] (res.1) (wPt a cI cL un ow res.2.1 res.2.2.1 res.2.2.2.1 res.2.2.2.2.1 res.2.2.2.2.2.1 res.2.2.2.2.2.2) A H locs (F0 m 14 ls []) := by
    clear hf hP hD hS hl
    intro n
    induction n with
    | zero => intro s3 _ _ _ hf; cases hf
    | succ n ihk4 =>
      intro s3 H locs ls hf hP hD hS hl
      obtain ⟨q5, hf, hgk4⟩ := jx_bs hf
      refine lv_iload_n hx hb dX3_remove_14 rfl (lv_at hl 3 rfl) ?_
      refine lv_bipush (v := 8) hx hb dX3_remove_15 (by decide) ?_
      refine lv_icmp_ge (tgt := 40) hx hb dX3_remove_17 (by decide) (fun hq => ?_) (fun hq => ?_)
      · replace hf := jx_pos hq hf
        have he := jx_eq hf
        subst he
        have he : _ = k4 := jx_eq hgk4
        subst he
        exact hXk4 _ _ _ hP hD hS (lv_sub hl [0, 1, 2] rfl)
      · replace hf := jx_neg hq hf
        refine lv_aload_n hx hb dX3_remove_20 rfl (lv_at hl 0 rfl) ?_
        refine lv_iload_n hx hb dX3_remove_21 rfl (lv_at hl 1 rfl) ?_
        refine lv_iload_n hx hb dX3_remove_22 rfl (lv_at hl 3 rfl) ?_
        refine lv_iconst (v := -1) hx hb dX3_remove_23 (by decide) ?_
        obtain ⟨r6, hc, hf⟩ := jx_bs hf
        refine jx_kv (wr := []) (ws2 := (wPt a cI cL un ow r6.1 r6.2 cm tr tl ch)) (jx_runV (As := [.int p0, .int s3.1, .int (-1 : Int32)]) (rest := []) ⟨hx, hb, hml, hown, hts⟩ (c_X3_setJoin l D a cI cL un ow s3.2.1 s3.2.2 cm tr tl ch p0 s3.1 (-1 : Int32) r6 hc _) (cwV 3 hts gX3_remove_X3_setJoin rfl rfl rfl (by decide +kernel) ⟨Nat.le_of_ble_eq_true rfl, Nat.le_of_ble_eq_true rfl⟩) hK hN hP hD [0, 1, 2, 3, 4, 5] rfl (by decide) 0 3 rfl rfl rfl hl.1 rfl (Nat.le_of_ble_eq_true rfl) dX3_remove_24 ⟨Nat.le_of_ble_eq_true rfl, Nat.le_of_ble_eq_true rfl⟩) hP hD hS hA [0, 1, 2, 3, 4, 5] [] [0, 1, 2, 3, 4, 5] rfl rfl (by decide) (by decide) rfl (by decide) (fun H locs hP hD hS => ?_)
        clear hc
        refine lv_aload_n hx hb dX3_remove_27 rfl (lv_at hl 0 rfl) ?_
        refine lv_iload_n hx hb dX3_remove_28 rfl (lv_at hl 3 rfl) ?_
        refine lv_iload_n hx hb dX3_remove_29 rfl (lv_at hl 1 rfl) ?_
        refine lv_iconst (v := -1) hx hb dX3_remove_30 (by decide) ?_
        obtain ⟨r7, hc, hf⟩ := jx_bs hf
        refine jx_kv (wr := []) (ws2 := (wPt a cI cL un ow r7.1 r7.2 cm tr tl ch)) (jx_runV (As := [.int s3.1, .int p0, .int (-1 : Int32)]) (rest := []) ⟨hx, hb, hml, hown, hts⟩ (c_X3_setJoin l D a cI cL un ow r6.1 r6.2 cm tr tl ch s3.1 p0 (-1 : Int32) r7 hc _) (cwV 3 hts gX3_remove_X3_setJoin rfl rfl rfl (by decide +kernel) ⟨Nat.le_of_ble_eq_true rfl, Nat.le_of_ble_eq_true rfl⟩) hK hN hP hD [0, 1, 2, 3, 4, 5] rfl (by decide) 0 3 rfl rfl rfl hl.1 rfl (Nat.le_of_ble_eq_true rfl) dX3_remove_31 ⟨Nat.le_of_ble_eq_true rfl, Nat.le_of_ble_eq_true rfl⟩) hP hD hS hA [0, 1, 2, 3, 4, 5] [] [0, 1, 2, 3, 4, 5] rfl rfl (by decide) (by decide) rfl (by decide) (fun H locs hP hD hS => ?_)
        clear hc
        refine lv_iinc (v := (s3.1 + (1 : Int32))) (lv' := [(3, .int (s3.1 + (1 : Int32))), (0, .ref (a 5)), (1, .int p0), (2, .int (r1 + r2))]) hx hb dX3_remove_34 hl (k := 3) rfl rfl (by decide) rfl (fun ls hl => ?_)
        refine lv_goto (tgt := 14) hx hb dX3_remove_37 (by decide) ?_
        have he := jx_eq hf
        subst he
        exact ihk4 ((s3.1 + (1 : Int32)), r7.1, r7.2) _ _ _ hgk4 hP hD hS (lv_sub hl [1, 2, 3, 0] rfl)
  exact hLk4 jx_F ((0 : Int32), ki, th) _ _ _ hf hP hD hS (lv_sub hl [2, 3, 1, 0] rfl)
set_option maxHeartbeats 4000000 in
set_option maxRecDepth 100000 in
theorem c_X3_setKind (l : Launch) (D : va_G) (a : Nat → Nat) (cI cL : ClassId) (un : (Nat → Int32)) (ow : (Nat → Int64)) (ki : (Nat → Int32)) (th : (Nat → Int64)) (cm : (Nat → Int64)) (tr : Int32) (tl : Int32) (ch : Int32) (p0 : Int32) (p1 : Int32) (p2 : Int32) (res : ((Nat → Int32) × (Nat → Int64) × (Nat → Int64) × Int32)) (hf : pf_X3_setKind ow ki th cm tr ch p0 p1 p2 = some res) : jMv l yX3_setKind wsX3_setKind ({ frames := 3, cells := 0, slots := 0, locals := 72 }) D [(cI, .int), (cL, .long)] [.ref (a 5), .int p0, .int p1, .int p2] (wPt a cI cL un ow ki th cm tr tl ch) (wPt a cI cL un ow res.1 res.2.1 res.2.2.1 tr tl res.2.2.2) := by
  intro sz
  refine Met.ofW (cc := cX3_setKind) (maxL := 4) (ret := none) (by decide) rfl ?_
  intro p e s m args below meth c s₁ B hml hv
  obtain ⟨rfl, hsz, hP, hK, hD0, hN⟩ := hv
  have hx := B.exec
  have hb := B.bytes
  have hr := B.returns
  have hts := atoms_spec (ws := wsX3_setKind) B.pre
  have hown : s.vm.findClass RX3 = some m.cls := findClass_of_methodNamed B.named
  have hlocks := B.notSynchronized
  subst hsz
  have hD := hD0.self (sz := s.heap.size)
  generalize hAe : va_A (wPt a cI cL un ow ki th cm tr tl ch) s.heap.size = A at hD ⊢
  have hA : ∀ q : Nat, s.heap.size ≤ q → A q := fun q h => by rw [← hAe]; exact Or.inr h
  have hS : va_S A s.heap s.heap [] := va_S.rf
  have hl := lv_entry ([.ref (a 5), .int p0, .int p1, .int p2]) (n := 4) (Nat.le_of_ble_eq_true rfl)
  rw [lg_entry_eq]
  generalize (lg_sl ([.ref (a 5), .int p0, .int p1, .int p2]) ++ List.replicate (4 - (lg_sl ([.ref (a 5), .int p0, .int p1, .int p2])).length) Slot.unset).toArray = ls at hl ⊢
  have hl : lv_has ls 4 [(0, .ref (a 5)), (1, .int p0), (2, .int p1), (3, .int p2)] := hl
  have hf : pf_X3_setKind ow ki th cm tr ch p0 p1 p2 = some res := hf
  refine lv_aload_n hx hb dX3_setKind_0 rfl (lv_at hl 0 rfl) ?_
  refine lv_iload_n hx hb dX3_setKind_1 rfl (lv_at hl 1 rfl) ?_
  refine lv_iload_n hx hb dX3_setKind_2 rfl (lv_at hl 2 rfl) ?_
  refine lv_iload_n hx hb dX3_setKind_3 rfl (lv_at hl 3 rfl) ?_
  obtain ⟨r1, hc, hf⟩ := jx_bs hf
  refine jx_kv (wr := []) (ws2 := (wPt a cI cL un ow r1.1 r1.2 cm tr tl ch)) (jx_runV (As := [.int p0, .int p1, .int p2]) (rest := []) ⟨hx, hb, hml, hown, hts⟩ (c_X3_setJoin l D a cI cL un ow ki th cm tr tl ch p0 p1 p2 r1 hc _) (cwV 3 hts gX3_setKind_X3_setJoin rfl rfl rfl (by decide +kernel) ⟨Nat.le_of_ble_eq_true rfl, Nat.le_of_ble_eq_true rfl⟩) hK hN hP hD [0, 1, 2, 3, 4, 5] rfl (by decide) 0 3 rfl rfl rfl hl.1 rfl (Nat.le_of_ble_eq_true rfl) dX3_setKind_4 ⟨Nat.le_of_ble_eq_true rfl, Nat.le_of_ble_eq_true rfl⟩) hP hD hS hA [0, 1, 2, 3, 4, 5] [] [0, 1, 2, 3, 4, 5] rfl rfl (by decide) (by decide) rfl (by decide) (fun H locs hP hD hS => ?_)
  clear hc
  refine lv_aload_n hx hb dX3_setKind_7 rfl (lv_at hl 0 rfl) ?_
  obtain ⟨r2, hc, hf⟩ := jx_bs hf
  refine jx_kv (wr := []) (ws2 := (wPt a cI cL un ow r1.1 r1.2 r2.1 tr tl r2.2)) (jx_runV (As := []) (rest := []) ⟨hx, hb, hml, hown, hts⟩ (c_X3_settle l D a cI cL un ow r1.1 r1.2 cm tr tl ch r2 hc _) (cwV 0 hts gX3_setKind_X3_settle rfl rfl rfl (by decide +kernel) ⟨Nat.le_of_ble_eq_true rfl, Nat.le_of_ble_eq_true rfl⟩) hK hN hP hD [0, 1, 2, 3, 4, 5] rfl (by decide) 0 3 rfl rfl rfl hl.1 rfl (Nat.le_of_ble_eq_true rfl) dX3_setKind_8 ⟨Nat.le_of_ble_eq_true rfl, Nat.le_of_ble_eq_true rfl⟩) hP hD hS hA [0, 1, 2, 3, 4, 5] [] [0, 1, 2, 3, 4, 5] rfl rfl (by decide) (by decide) rfl (by decide) (fun H locs hP hD hS => ?_)
  clear hc
  have he := jx_eq hf
  subst he
  exact jx_retv hx hb hr hlocks hK hP hD hS dX3_setKind_11
