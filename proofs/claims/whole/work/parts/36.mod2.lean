theorem iw_X7_usesOf_X7 : ∀ w ∈ wsX70, w ∈ wsX7_usesOf := by decide +kernel
set_option maxHeartbeats 4000000 in
set_option maxRecDepth 100000 in
theorem c_X7_usesOf (l : Launch) (D : va_G) (a : Nat → Nat) (cI cL : ClassId) (nl : Int32) (np : (Nat → Int32)) (nt : Int32) (nr : (Nat → Int32)) (nh : Int32) (ns : (Nat → Int32)) (nk : (Nat → Int32)) (ne : Int32) (nw : Int32) (na : (Nat → Int32)) (nf : (Nat → Int32)) (nc : Int32) (ng : (Nat → Int32)) (nx : Int64) (p0 : Int32) (res : Int32) (hf : pf_X7_usesOf nh nk p0 = some res) : jMi l yX7_usesOf wsX7_usesOf ({ frames := 1, cells := 0, slots := 0, locals := 21 }) D [(cI, .int), (cL, .long)] [.ref (a 0), .int p0] (wM a cI cL nl np nt nr nh ns nk ne nw na nf nc ng nx) res (wM a cI cL nl np nt nr nh ns nk ne nw na nf nc ng nx) := by
  intro sz
  refine Met.ofW (cc := cX7_usesOf) (maxL := 4) (ret := (some .int)) (by decide) rfl ?_
  intro p e s m args below meth c s₁ B hml hv
  obtain ⟨rfl, hsz, hP, hK, hD0, hN⟩ := hv
  have hx := B.exec
  have hb := B.bytes
  have hr := B.returns
  have hts := atoms_spec (ws := wsX7_usesOf) B.pre
  have hown : s.vm.findClass RX7 = some m.cls := findClass_of_methodNamed B.named
  have hlocks := B.notSynchronized
  subst hsz
  have hD := hD0.self (sz := s.heap.size)
  generalize hAe : va_A (wM a cI cL nl np nt nr nh ns nk ne nw na nf nc ng nx) s.heap.size = A at hD ⊢
  have hA : ∀ q : Nat, s.heap.size ≤ q → A q := fun q h => by rw [← hAe]; exact Or.inr h
  have hS : va_S A s.heap s.heap [] := va_S.rf
  have hl := lv_entry ([.ref (a 0), .int p0]) (n := 4) (Nat.le_of_ble_eq_true rfl)
  rw [lg_entry_eq]
  generalize (lg_sl ([.ref (a 0), .int p0]) ++ List.replicate (4 - (lg_sl ([.ref (a 0), .int p0])).length) Slot.unset).toArray = ls at hl ⊢
  have hl : lv_has ls 4 [(0, .ref (a 0)), (1, .int p0)] := hl
  have hf : pf_X7_usesOf nh nk p0 = some res := hf
  refine lv_iconst (v := 0) hx hb dX7_usesOf_0 (by decide) ?_
  refine lv_istore_n (lv' := [(2, .int (0 : Int32)), (0, .ref (a 0)), (1, .int p0)]) hx hb dX7_usesOf_1 rfl hl (by decide) rfl (fun ls hl => ?_)
  refine lv_iconst (v := 0) hx hb dX7_usesOf_2 (by decide) ?_
  refine lv_istore_n (lv' := [(3, .int (0 : Int32)), (2, .int (0 : Int32)), (0, .ref (a 0)), (1, .int p0)]) hx hb dX7_usesOf_3 rfl hl (by decide) rfl (fun ls hl => ?_)
  obtain ⟨k2, hf, hkk2⟩ := jx_bs hf
  have hXk2 : ∀ (H : Heap) (locs : List Loc) (ls : Array Slot), va_P D vwCl (wM a cI cL nl np nt nr nh ns nk ne nw na nf nc ng nx) H → va_D A (wM a cI cL nl np nt nr nh ns nk ne nw na nf nc ng nx) → va_S A s.heap H locs → lv_has ls 4 [(2, .int k2)] → jx_Wi p l e wsX7_usesOf ({ frames := 1, cells := 0, slots := 0, locals := 21 }) s m [.ref (a 0), .int p0] below meth c D [(cI, .int), (cL, .long)] res (wM a cI cL nl np nt nr nh ns nk ne nw na nf nc ng nx) A H locs (F0 m 50 ls []) := by
    clear hf hP hD hS hl
    intro H locs ls hP hD hS hl
    have hf := hkk2
    refine lv_iload_n hx hb dX7_usesOf_50 rfl (lv_at hl 0 rfl) ?_
    have he := jx_eq hf
    subst he
    exact jx_reti hx hb hr hlocks rfl hK hP hD hS dX7_usesOf_51
  have hLk2 : ∀ (n : Nat) (s1 : (Int32 × Int32)) (H : Heap) (locs : List Loc) (ls : Array Slot), jx_iter (pf_X7_usesOf_s1 nh nk p0) n s1 = some k2 → va_P D vwCl (wM a cI cL nl np nt nr nh ns nk ne nw na nf nc ng nx) H → va_D A (wM a cI cL nl np nt nr nh ns nk ne nw na nf nc ng nx) → va_S A s.heap H locs → lv_has ls 4 [(0, .ref (a 0)), (1, .int p0), (2, .int s1.1), (3, .int s1.2)] → jx_Wi p l e wsX7_usesOf ({ frames := 1, cells := 0, slots := 0, locals := 21 }) s m [.ref (a 0), .int p0] below meth c D [(cI, .int), (cL, .long)] res (wM a cI cL nl np nt nr nh ns nk ne nw na nf nc ng nx) A H locs (F0 m 4 ls []) := by
    clear hf hP hD hS hl
    intro n
    induction n with
    | zero => intro s1 _ _ _ hf; cases hf
    | succ n ihk2 =>
      intro s1 H locs ls hf hP hD hS hl
      obtain ⟨q3, hf, hgk2⟩ := jx_bs hf
      refine lv_iload_n hx hb dX7_usesOf_4 rfl (lv_at hl 3 rfl) ?_
      refine lv_bipush (v := 8) hx hb dX7_usesOf_5 (by decide) ?_
      refine lv_icmp_ge (tgt := 50) hx hb dX7_usesOf_7 (by decide) (fun hq => ?_) (fun hq => ?_)
      · replace hf := jx_pos hq hf
        have he := jx_eq hf
        subst he
        have he : _ = k2 := jx_eq hgk2
        subst he
        exact hXk2 _ _ _ hP hD hS (lv_sub hl [2] rfl)
      · replace hf := jx_neg hq hf
        refine lv_iload_n hx hb dX7_usesOf_10 rfl (lv_at hl 2 rfl) ?_
        refine lv_aload_n hx hb dX7_usesOf_11 rfl (lv_at hl 0 rfl) ?_
        refine va_get (D := D) (ci := 6) (v := .int nh) (C := RX7) (T := TX7) (N := 14) hx hb hts iw_X7_usesOf_X7 hown hK hP 0 rfl rfl 4 (by decide) (hts (.fieldLink RX7 65 "PassedDutiesModel" "there" "I") (by decide +kernel)) (fun _ h9 => h9) rfl dX7_usesOf_12 ?_
        refine lv_iload_n hx hb dX7_usesOf_15 rfl (lv_at hl 3 rfl) ?_
        obtain ⟨r4, hc, hf⟩ := jx_bs hf
        refine jx_ki (wr := [((a 0), .inr (6, [.int nl, .ref (a 1), .int nt, .ref (a 2), .int nh, .ref (a 3), .ref (a 4), .int ne, .int nw, .ref (a 5), .ref (a 6), .int nc, .ref (a 7), .long nx])), ((a 1), .inl (cI, 24, .inl np)), ((a 2), .inl (cI, 108, .inl nr)), ((a 3), .inl (cI, 8, .inl ns)), ((a 4), .inl (cI, 64, .inl nk)), ((a 5), .inl (cI, 8, .inl na)), ((a 6), .inl (cI, 8, .inl nf)), ((a 7), .inl (cI, 48, .inl ng))]) (ws2 := (wM a cI cL nl np nt nr nh ns nk ne nw na nf nc ng nx)) (jx_runS (As := [.int nh, .int s1.2]) (rest := [.int s1.1]) ⟨hx, hb, hml, hown, hts⟩ (c_X7_has l D a cI cL nh s1.2 r4 hc _) (va_cwS 2 hts gX7_usesOf_X7_has rfl rfl rfl (by decide +kernel) ⟨Nat.le_of_ble_eq_true rfl, Nat.le_of_ble_eq_true rfl⟩) hK hN hP hD [] rfl (by decide) rfl hl.1 rfl (Nat.le_of_ble_eq_true rfl) dX7_usesOf_16 ⟨Nat.le_of_ble_eq_true rfl, Nat.le_of_ble_eq_true rfl⟩) hP hD hS hA [] [0, 1, 2, 3, 4, 5, 6, 7] [0, 1, 2, 3, 4, 5, 6, 7] rfl rfl (by decide) (by decide) rfl (by decide) (fun H locs hP hD hS => ?_)
        clear hc
        obtain ⟨j5, hf, hkj5⟩ := jx_bs hf
        have hJj5 : ∀ (H : Heap) (locs : List Loc) (ls : Array Slot), va_P D vwCl (wM a cI cL nl np nt nr nh ns nk ne nw na nf nc ng nx) H → va_D A (wM a cI cL nl np nt nr nh ns nk ne nw na nf nc ng nx) → va_S A s.heap H locs → lv_has ls 4 [(0, .ref (a 0)), (1, .int p0), (3, .int s1.2)] → jx_Wi p l e wsX7_usesOf ({ frames := 1, cells := 0, slots := 0, locals := 21 }) s m [.ref (a 0), .int p0] below meth c D [(cI, .int), (cL, .long)] res (wM a cI cL nl np nt nr nh ns nk ne nw na nf nc ng nx) A H locs (F0 m 42 ls [.int j5, .int s1.1]) := by
          clear hf hP hD hS hl
          intro H locs ls hP hD hS hl
          have hf := hkj5
          refine lv_iadd hx hb dX7_usesOf_42 ?_
          refine lv_istore_n (lv' := [(2, .int (s1.1 + j5)), (0, .ref (a 0)), (1, .int p0), (3, .int s1.2)]) hx hb dX7_usesOf_43 rfl hl (by decide) rfl (fun ls hl => ?_)
          refine lv_iinc (v := (s1.2 + (1 : Int32))) (lv' := [(3, .int (s1.2 + (1 : Int32))), (2, .int (s1.1 + j5)), (0, .ref (a 0)), (1, .int p0)]) hx hb dX7_usesOf_44 hl (k := 3) rfl rfl (by decide) rfl (fun ls hl => ?_)
          refine lv_goto (tgt := 4) hx hb dX7_usesOf_47 (by decide) ?_
          have he := jx_eq hf
          subst he
          exact ihk2 ((s1.1 + j5), (s1.2 + (1 : Int32))) _ _ _ hgk2 hP hD hS (lv_sub hl [2, 3, 1, 0] rfl)
        refine lv_if_eq (tgt := 41) hx hb dX7_usesOf_19 (by decide) (fun hq => ?_) (fun hq => ?_)
        · replace hf := jx_pos hq hf
          refine lv_iconst (v := 0) hx hb dX7_usesOf_41 (by decide) ?_
          have he := jx_eq hf
          subst he
          exact hJj5 _ _ _ hP hD hS (lv_sub hl [0, 1, 3] rfl)
        · replace hf := jx_neg hq hf
          refine lv_aload_n hx hb dX7_usesOf_22 rfl (lv_at hl 0 rfl) ?_
          refine va_get (D := D) (ci := 6) (v := .ref (a 4)) (C := RX7) (T := TX7) (N := 14) hx hb hts iw_X7_usesOf_X7 hown hK hP 0 rfl rfl 6 (by decide) (hts (.fieldLink RX7 19 "PassedDutiesModel" "kinds" "[I") (by decide +kernel)) (fun _ h9 => h9) rfl dX7_usesOf_23 ?_
          refine lv_bipush (v := 8) hx hb dX7_usesOf_26 (by decide) ?_
          refine lv_iload_n hx hb dX7_usesOf_28 rfl (lv_at hl 1 rfl) ?_
          refine lv_imul hx hb dX7_usesOf_29 ?_
          refine lv_iload_n hx hb dX7_usesOf_30 rfl (lv_at hl 3 rfl) ?_
          refine lv_iadd hx hb dX7_usesOf_31 ?_
          obtain ⟨hi, hf⟩ := jx_gs hf
          refine va_iald hx hb hK hP 4 0 rfl rfl (jx_ip hi) dX7_usesOf_32 ?_
          clear hi
          refine lv_iconst (v := -1) hx hb dX7_usesOf_33 (by decide) ?_
          refine lv_icmp_eq (tgt := 41) hx hb dX7_usesOf_34 (by decide) (fun hq => ?_) (fun hq => ?_)
          · replace hf := jx_pos hq hf
            refine lv_iconst (v := 0) hx hb dX7_usesOf_41 (by decide) ?_
            have he := jx_eq hf
            subst he
            exact hJj5 _ _ _ hP hD hS (lv_sub hl [0, 1, 3] rfl)
          · replace hf := jx_neg hq hf
            refine lv_iconst (v := 1) hx hb dX7_usesOf_37 (by decide) ?_
            refine lv_goto (tgt := 42) hx hb dX7_usesOf_38 (by decide) ?_
            have he := jx_eq hf
            subst he
            exact hJj5 _ _ _ hP hD hS (lv_sub hl [0, 1, 3] rfl)
  exact hLk2 jx_F ((0 : Int32), (0 : Int32)) _ _ _ hf hP hD hS (lv_sub hl [2, 3, 1, 0] rfl)
theorem iw_X7_joins_X7 : ∀ w ∈ wsX70, w ∈ wsX7_joins := by decide +kernel
set_option maxHeartbeats 4000000 in
set_option maxRecDepth 100000 in
theorem c_X7_joins (l : Launch) (D : va_G) (a : Nat → Nat) (cI cL : ClassId) (nl : Int32) (np : (Nat → Int32)) (nt : Int32) (nr : (Nat → Int32)) (nh : Int32) (ns : (Nat → Int32)) (nk : (Nat → Int32)) (ne : Int32) (nw : Int32) (na : (Nat → Int32)) (nf : (Nat → Int32)) (nc : Int32) (ng : (Nat → Int32)) (nx : Int64) (res : Int32) (hf : pf_X7_joins nh nk = some res) : jMi l yX7_joins wsX7_joins ({ frames := 2, cells := 0, slots := 0, locals := 44 }) D [(cI, .int), (cL, .long)] [.ref (a 0)] (wM a cI cL nl np nt nr nh ns nk ne nw na nf nc ng nx) res (wM a cI cL nl np nt nr nh ns nk ne nw na nf nc ng nx) := by
  intro sz
  refine Met.ofW (cc := cX7_joins) (maxL := 3) (ret := (some .int)) (by decide) rfl ?_
  intro p e s m args below meth c s₁ B hml hv
  obtain ⟨rfl, hsz, hP, hK, hD0, hN⟩ := hv
  have hx := B.exec
  have hb := B.bytes
  have hr := B.returns
  have hts := atoms_spec (ws := wsX7_joins) B.pre
  have hown : s.vm.findClass RX7 = some m.cls := findClass_of_methodNamed B.named
  have hlocks := B.notSynchronized
  subst hsz
  have hD := hD0.self (sz := s.heap.size)
  generalize hAe : va_A (wM a cI cL nl np nt nr nh ns nk ne nw na nf nc ng nx) s.heap.size = A at hD ⊢
  have hA : ∀ q : Nat, s.heap.size ≤ q → A q := fun q h => by rw [← hAe]; exact Or.inr h
  have hS : va_S A s.heap s.heap [] := va_S.rf
  have hl := lv_entry ([.ref (a 0)]) (n := 3) (Nat.le_of_ble_eq_true rfl)
  rw [lg_entry_eq]
  generalize (lg_sl ([.ref (a 0)]) ++ List.replicate (3 - (lg_sl ([.ref (a 0)])).length) Slot.unset).toArray = ls at hl ⊢
  have hl : lv_has ls 3 [(0, .ref (a 0))] := hl
  have hf : pf_X7_joins nh nk = some res := hf
  refine lv_iconst (v := 0) hx hb dX7_joins_0 (by decide) ?_
  refine lv_istore_n (lv' := [(1, .int (0 : Int32)), (0, .ref (a 0))]) hx hb dX7_joins_1 rfl hl (by decide) rfl (fun ls hl => ?_)
  refine lv_iconst (v := 0) hx hb dX7_joins_2 (by decide) ?_
  refine lv_istore_n (lv' := [(2, .int (0 : Int32)), (1, .int (0 : Int32)), (0, .ref (a 0))]) hx hb dX7_joins_3 rfl hl (by decide) rfl (fun ls hl => ?_)
  obtain ⟨k2, hf, hkk2⟩ := jx_bs hf
  have hXk2 : ∀ (H : Heap) (locs : List Loc) (ls : Array Slot), va_P D vwCl (wM a cI cL nl np nt nr nh ns nk ne nw na nf nc ng nx) H → va_D A (wM a cI cL nl np nt nr nh ns nk ne nw na nf nc ng nx) → va_S A s.heap H locs → lv_has ls 3 [(1, .int k2)] → jx_Wi p l e wsX7_joins ({ frames := 2, cells := 0, slots := 0, locals := 44 }) s m [.ref (a 0)] below meth c D [(cI, .int), (cL, .long)] res (wM a cI cL nl np nt nr nh ns nk ne nw na nf nc ng nx) A H locs (F0 m 39 ls []) := by
    clear hf hP hD hS hl
    intro H locs ls hP hD hS hl
    have hf := hkk2
    refine lv_iload_n hx hb dX7_joins_39 rfl (lv_at hl 0 rfl) ?_
    have he := jx_eq hf
    subst he
    exact jx_reti hx hb hr hlocks rfl hK hP hD hS dX7_joins_40
  have hLk2 : ∀ (n : Nat) (s1 : (Int32 × Int32)) (H : Heap) (locs : List Loc) (ls : Array Slot), jx_iter (pf_X7_joins_s1 nh nk) n s1 = some k2 → va_P D vwCl (wM a cI cL nl np nt nr nh ns nk ne nw na nf nc ng nx) H → va_D A (wM a cI cL nl np nt nr nh ns nk ne nw na nf nc ng nx) → va_S A s.heap H locs → lv_has ls 3 [(0, .ref (a 0)), (1, .int s1.1), (2, .int s1.2)] → jx_Wi p l e wsX7_joins ({ frames := 2, cells := 0, slots := 0, locals := 44 }) s m [.ref (a 0)] below meth c D [(cI, .int), (cL, .long)] res (wM a cI cL nl np nt nr nh ns nk ne nw na nf nc ng nx) A H locs (F0 m 4 ls []) := by
    clear hf hP hD hS hl
    intro n
    induction n with
    | zero => intro s1 _ _ _ hf; cases hf
    | succ n ihk2 =>
      intro s1 H locs ls hf hP hD hS hl
      obtain ⟨q3, hf, hgk2⟩ := jx_bs hf
      refine lv_iload_n hx hb dX7_joins_4 rfl (lv_at hl 2 rfl) ?_
      refine lv_bipush (v := 8) hx hb dX7_joins_5 (by decide) ?_
      refine lv_icmp_ge (tgt := 39) hx hb dX7_joins_7 (by decide) (fun hq => ?_) (fun hq => ?_)
      · replace hf := jx_pos hq hf
        have he := jx_eq hf
        subst he
        have he : _ = k2 := jx_eq hgk2
        subst he
        exact hXk2 _ _ _ hP hD hS (lv_sub hl [1] rfl)
      · replace hf := jx_neg hq hf
        refine lv_iload_n hx hb dX7_joins_10 rfl (lv_at hl 1 rfl) ?_
        refine lv_aload_n hx hb dX7_joins_11 rfl (lv_at hl 0 rfl) ?_
        refine va_get (D := D) (ci := 6) (v := .int nh) (C := RX7) (T := TX7) (N := 14) hx hb hts iw_X7_joins_X7 hown hK hP 0 rfl rfl 4 (by decide) (hts (.fieldLink RX7 65 "PassedDutiesModel" "there" "I") (by decide +kernel)) (fun _ h9 => h9) rfl dX7_joins_12 ?_
        refine lv_iload_n hx hb dX7_joins_15 rfl (lv_at hl 2 rfl) ?_
        obtain ⟨r4, hc, hf⟩ := jx_bs hf
        refine jx_ki (wr := [((a 0), .inr (6, [.int nl, .ref (a 1), .int nt, .ref (a 2), .int nh, .ref (a 3), .ref (a 4), .int ne, .int nw, .ref (a 5), .ref (a 6), .int nc, .ref (a 7), .long nx])), ((a 1), .inl (cI, 24, .inl np)), ((a 2), .inl (cI, 108, .inl nr)), ((a 3), .inl (cI, 8, .inl ns)), ((a 4), .inl (cI, 64, .inl nk)), ((a 5), .inl (cI, 8, .inl na)), ((a 6), .inl (cI, 8, .inl nf)), ((a 7), .inl (cI, 48, .inl ng))]) (ws2 := (wM a cI cL nl np nt nr nh ns nk ne nw na nf nc ng nx)) (jx_runS (As := [.int nh, .int s1.2]) (rest := [.int s1.1]) ⟨hx, hb, hml, hown, hts⟩ (c_X7_has l D a cI cL nh s1.2 r4 hc _) (va_cwS 2 hts gX7_joins_X7_has rfl rfl rfl (by decide +kernel) ⟨Nat.le_of_ble_eq_true rfl, Nat.le_of_ble_eq_true rfl⟩) hK hN hP hD [] rfl (by decide) rfl hl.1 rfl (Nat.le_of_ble_eq_true rfl) dX7_joins_16 ⟨Nat.le_of_ble_eq_true rfl, Nat.le_of_ble_eq_true rfl⟩) hP hD hS hA [] [0, 1, 2, 3, 4, 5, 6, 7] [0, 1, 2, 3, 4, 5, 6, 7] rfl rfl (by decide) (by decide) rfl (by decide) (fun H locs hP hD hS => ?_)
        clear hc
        obtain ⟨j5, hf, hkj5⟩ := jx_bs hf
        have hJj5 : ∀ (H : Heap) (locs : List Loc) (ls : Array Slot), va_P D vwCl (wM a cI cL nl np nt nr nh ns nk ne nw na nf nc ng nx) H → va_D A (wM a cI cL nl np nt nr nh ns nk ne nw na nf nc ng nx) → va_S A s.heap H locs → lv_has ls 3 [(0, .ref (a 0)), (2, .int s1.2)] → jx_Wi p l e wsX7_joins ({ frames := 2, cells := 0, slots := 0, locals := 44 }) s m [.ref (a 0)] below meth c D [(cI, .int), (cL, .long)] res (wM a cI cL nl np nt nr nh ns nk ne nw na nf nc ng nx) A H locs (F0 m 31 ls [.int j5, .int s1.1]) := by
          clear hf hP hD hS hl
          intro H locs ls hP hD hS hl
          have hf := hkj5
          refine lv_iadd hx hb dX7_joins_31 ?_
          refine lv_istore_n (lv' := [(1, .int (s1.1 + j5)), (0, .ref (a 0)), (2, .int s1.2)]) hx hb dX7_joins_32 rfl hl (by decide) rfl (fun ls hl => ?_)
          refine lv_iinc (v := (s1.2 + (1 : Int32))) (lv' := [(2, .int (s1.2 + (1 : Int32))), (1, .int (s1.1 + j5)), (0, .ref (a 0))]) hx hb dX7_joins_33 hl (k := 2) rfl rfl (by decide) rfl (fun ls hl => ?_)
          refine lv_goto (tgt := 4) hx hb dX7_joins_36 (by decide) ?_
          have he := jx_eq hf
          subst he
          exact ihk2 ((s1.1 + j5), (s1.2 + (1 : Int32))) _ _ _ hgk2 hP hD hS (lv_sub hl [2, 1, 0] rfl)
        refine lv_if_eq (tgt := 30) hx hb dX7_joins_19 (by decide) (fun hq => ?_) (fun hq => ?_)
        · replace hf := jx_pos hq hf
          refine lv_iconst (v := 0) hx hb dX7_joins_30 (by decide) ?_
          have he := jx_eq hf
          subst he
          exact hJj5 _ _ _ hP hD hS (lv_sub hl [0, 2] rfl)
        · replace hf := jx_neg hq hf
          refine lv_aload_n hx hb dX7_joins_22 rfl (lv_at hl 0 rfl) ?_
          refine lv_iload_n hx hb dX7_joins_23 rfl (lv_at hl 2 rfl) ?_
          obtain ⟨r6, hc, hf⟩ := jx_bs hf
          refine jx_ki (wr := []) (ws2 := (wM a cI cL nl np nt nr nh ns nk ne nw na nf nc ng nx)) (jx_runV (As := [.int s1.2]) (rest := [.int s1.1]) ⟨hx, hb, hml, hown, hts⟩ (c_X7_usesOf l D a cI cL nl np nt nr nh ns nk ne nw na nf nc ng nx s1.2 r6 hc _) (cwV 1 hts gX7_joins_X7_usesOf rfl rfl rfl (by decide +kernel) ⟨Nat.le_of_ble_eq_true rfl, Nat.le_of_ble_eq_true rfl⟩) hK hN hP hD [0, 1, 2, 3, 4, 5, 6, 7] rfl (by decide) 0 6 rfl rfl rfl hl.1 rfl (Nat.le_of_ble_eq_true rfl) dX7_joins_24 ⟨Nat.le_of_ble_eq_true rfl, Nat.le_of_ble_eq_true rfl⟩) hP hD hS hA [0, 1, 2, 3, 4, 5, 6, 7] [] [0, 1, 2, 3, 4, 5, 6, 7] rfl rfl (by decide) (by decide) rfl (by decide) (fun H locs hP hD hS => ?_)
          clear hc
          refine lv_goto (tgt := 31) hx hb dX7_joins_27 (by decide) ?_
          have he := jx_eq hf
          subst he
          exact hJj5 _ _ _ hP hD hS (lv_sub hl [0, 2] rfl)
  exact hLk2 jx_F ((0 : Int32), (0 : Int32)) _ _ _ hf hP hD hS (lv_sub hl [2, 1, 0] rfl)
theorem iw_X7_howMany_X7 : ∀ w ∈ wsX70, w ∈ wsX7_howMany := by decide +kernel
set_option maxHeartbeats 4000000 in
set_option maxRecDepth 100000 in
theorem c_X7_howMany (l : Launch) (D : va_G) (a : Nat → Nat) (cI cL : ClassId) (nl : Int32) (np : (Nat → Int32)) (nt : Int32) (nr : (Nat → Int32)) (nh : Int32) (ns : (Nat → Int32)) (nk : (Nat → Int32)) (ne : Int32) (nw : Int32) (na : (Nat → Int32)) (nf : (Nat → Int32)) (nc : Int32) (ng : (Nat → Int32)) (nx : Int64) (p0 : Int32) (res : (Int32 × Int32 × (Nat → Int32))) (hf : pf_X7_howMany nl nt nr nh ns nk ne nc ng p0 = some res) : jMi l yX7_howMany wsX7_howMany ({ frames := 6, cells := 0, slots := 0, locals := 138 }) D [(cI, .int), (cL, .long)] [.ref (a 0), .int p0] (wM a cI cL nl np nt nr nh ns nk ne nw na nf nc ng nx) res.1 (wM a cI cL nl np nt nr nh ns nk ne nw na nf res.2.1 res.2.2 nx) := by
  intro sz
  refine Met.ofW (cc := cX7_howMany) (maxL := 2) (ret := (some .int)) (by decide) rfl ?_
  intro p e s m args below meth c s₁ B hml hv
  obtain ⟨rfl, hsz, hP, hK, hD0, hN⟩ := hv
  have hx := B.exec
  have hb := B.bytes
  have hr := B.returns
  have hts := atoms_spec (ws := wsX7_howMany) B.pre
  have hown : s.vm.findClass RX7 = some m.cls := findClass_of_methodNamed B.named
  have hlocks := B.notSynchronized
  subst hsz
  have hD := hD0.self (sz := s.heap.size)
  generalize hAe : va_A (wM a cI cL nl np nt nr nh ns nk ne nw na nf nc ng nx) s.heap.size = A at hD ⊢
  have hA : ∀ q : Nat, s.heap.size ≤ q → A q := fun q h => by rw [← hAe]; exact Or.inr h
  have hS : va_S A s.heap s.heap [] := va_S.rf
  have hl := lv_entry ([.ref (a 0), .int p0]) (n := 2) (Nat.le_of_ble_eq_true rfl)
  rw [lg_entry_eq]
  generalize (lg_sl ([.ref (a 0), .int p0]) ++ List.replicate (2 - (lg_sl ([.ref (a 0), .int p0])).length) Slot.unset).toArray = ls at hl ⊢
  have hl : lv_has ls 2 [(0, .ref (a 0)), (1, .int p0)] := hl
  have hf : pf_X7_howMany nl nt nr nh ns nk ne nc ng p0 = some res := hf
  refine lv_iload_n hx hb dX7_howMany_0 rfl (lv_at hl 1 rfl) ?_
  by_cases hq0 : p0 = (0 : Int32)
  · replace hf := jx_pos hq0 hf
    refine lv_tableIn (off := 47) (tgt := 48) hx hb dX7_howMany_1 (by rw [hq0]; decide) (by rw [hq0]; decide) (by rw [hq0]; decide) (by decide) ?_
    refine lv_aload_n hx hb dX7_howMany_48 rfl (lv_at hl 0 rfl) ?_
    refine va_get (D := D) (ci := 6) (v := .int nl) (C := RX7) (T := TX7) (N := 14) hx hb hts iw_X7_howMany_X7 hown hK hP 0 rfl rfl 0 (by decide) (hts (.fieldLink RX7 35 "PassedDutiesModel" "pageLength" "I") (by decide +kernel)) (fun _ h9 => h9) rfl dX7_howMany_49 ?_
    have he := jx_eq hf
    subst he
    exact jx_reti hx hb hr hlocks rfl hK hP hD hS dX7_howMany_52
  replace hf := jx_neg hq0 hf
  by_cases hq1 : p0 = (1 : Int32)
  · replace hf := jx_pos hq1 hf
    refine lv_tableIn (off := 52) (tgt := 53) hx hb dX7_howMany_1 (by rw [hq1]; decide) (by rw [hq1]; decide) (by rw [hq1]; decide) (by decide) ?_
    refine lv_aload_n hx hb dX7_howMany_53 rfl (lv_at hl 0 rfl) ?_
    refine va_get (D := D) (ci := 6) (v := .int nt) (C := RX7) (T := TX7) (N := 14) hx hb hts iw_X7_howMany_X7 hown hK hP 0 rfl rfl 2 (by decide) (hts (.fieldLink RX7 47 "PassedDutiesModel" "termsMany" "I") (by decide +kernel)) (fun _ h9 => h9) rfl dX7_howMany_54 ?_
    have he := jx_eq hf
    subst he
    exact jx_reti hx hb hr hlocks rfl hK hP hD hS dX7_howMany_57
  replace hf := jx_neg hq1 hf
  by_cases hq2 : p0 = (2 : Int32)
  · replace hf := jx_pos hq2 hf
    refine lv_tableIn (off := 57) (tgt := 58) hx hb dX7_howMany_1 (by rw [hq2]; decide) (by rw [hq2]; decide) (by rw [hq2]; decide) (by decide) ?_
    refine lv_aload_n hx hb dX7_howMany_58 rfl (lv_at hl 0 rfl) ?_
    refine va_get (D := D) (ci := 6) (v := .int nh) (C := RX7) (T := TX7) (N := 14) hx hb hts iw_X7_howMany_X7 hown hK hP 0 rfl rfl 4 (by decide) (hts (.fieldLink RX7 65 "PassedDutiesModel" "there" "I") (by decide +kernel)) (fun _ h9 => h9) rfl dX7_howMany_59 ?_
    obtain ⟨r1, hc, hf⟩ := jx_bs hf
    refine jx_ki (wr := [((a 0), .inr (6, [.int nl, .ref (a 1), .int nt, .ref (a 2), .int nh, .ref (a 3), .ref (a 4), .int ne, .int nw, .ref (a 5), .ref (a 6), .int nc, .ref (a 7), .long nx])), ((a 1), .inl (cI, 24, .inl np)), ((a 2), .inl (cI, 108, .inl nr)), ((a 3), .inl (cI, 8, .inl ns)), ((a 4), .inl (cI, 64, .inl nk)), ((a 5), .inl (cI, 8, .inl na)), ((a 6), .inl (cI, 8, .inl nf)), ((a 7), .inl (cI, 48, .inl ng))]) (ws2 := (wM a cI cL nl np nt nr nh ns nk ne nw na nf nc ng nx)) (jx_runS (As := [.int nh]) (rest := []) ⟨hx, hb, hml, hown, hts⟩ (c_X7_ones l D a cI cL nh r1 hc _) (va_cwS 1 hts gX7_howMany_X7_ones rfl rfl rfl (by decide +kernel) ⟨Nat.le_of_ble_eq_true rfl, Nat.le_of_ble_eq_true rfl⟩) hK hN hP hD [] rfl (by decide) rfl hl.1 rfl (Nat.le_of_ble_eq_true rfl) dX7_howMany_62 ⟨Nat.le_of_ble_eq_true rfl, Nat.le_of_ble_eq_true rfl⟩) hP hD hS hA [] [0, 1, 2, 3, 4, 5, 6, 7] [0, 1, 2, 3, 4, 5, 6, 7] rfl rfl (by decide) (by decide) rfl (by decide) (fun H locs hP hD hS => ?_)
    clear hc
    have he := jx_eq hf
    subst he
    exact jx_reti hx hb hr hlocks rfl hK hP hD hS dX7_howMany_65
  replace hf := jx_neg hq2 hf
  by_cases hq3 : p0 = (3 : Int32)
  · replace hf := jx_pos hq3 hf
    refine lv_tableIn (off := 65) (tgt := 66) hx hb dX7_howMany_1 (by rw [hq3]; decide) (by rw [hq3]; decide) (by rw [hq3]; decide) (by decide) ?_
    refine lv_aload_n hx hb dX7_howMany_66 rfl (lv_at hl 0 rfl) ?_
    refine va_get (D := D) (ci := 6) (v := .int nh) (C := RX7) (T := TX7) (N := 14) hx hb hts iw_X7_howMany_X7 hown hK hP 0 rfl rfl 4 (by decide) (hts (.fieldLink RX7 65 "PassedDutiesModel" "there" "I") (by decide +kernel)) (fun _ h9 => h9) rfl dX7_howMany_67 ?_
    have he := jx_eq hf
    subst he
    exact jx_reti hx hb hr hlocks rfl hK hP hD hS dX7_howMany_70
  replace hf := jx_neg hq3 hf
  by_cases hq4 : p0 = (4 : Int32)
  · replace hf := jx_pos hq4 hf
    refine lv_tableIn (off := 70) (tgt := 71) hx hb dX7_howMany_1 (by rw [hq4]; decide) (by rw [hq4]; decide) (by rw [hq4]; decide) (by decide) ?_
    refine lv_aload_n hx hb dX7_howMany_71 rfl (lv_at hl 0 rfl) ?_
    obtain ⟨r2, hc, hf⟩ := jx_bs hf
    refine jx_ki (wr := []) (ws2 := (wM a cI cL nl np nt nr nh ns nk ne nw na nf nc ng nx)) (jx_runV (As := []) (rest := []) ⟨hx, hb, hml, hown, hts⟩ (c_X7_joins l D a cI cL nl np nt nr nh ns nk ne nw na nf nc ng nx r2 hc _) (cwV 0 hts gX7_howMany_X7_joins rfl rfl rfl (by decide +kernel) ⟨Nat.le_of_ble_eq_true rfl, Nat.le_of_ble_eq_true rfl⟩) hK hN hP hD [0, 1, 2, 3, 4, 5, 6, 7] rfl (by decide) 0 6 rfl rfl rfl hl.1 rfl (Nat.le_of_ble_eq_true rfl) dX7_howMany_72 ⟨Nat.le_of_ble_eq_true rfl, Nat.le_of_ble_eq_true rfl⟩) hP hD hS hA [0, 1, 2, 3, 4, 5, 6, 7] [] [0, 1, 2, 3, 4, 5, 6, 7] rfl rfl (by decide) (by decide) rfl (by decide) (fun H locs hP hD hS => ?_)
    clear hc
    have he := jx_eq hf
    subst he
    exact jx_reti hx hb hr hlocks rfl hK hP hD hS dX7_howMany_75
  replace hf := jx_neg hq4 hf
  by_cases hq5 : p0 = (5 : Int32)
  · replace hf := jx_pos hq5 hf
    refine lv_tableIn (off := 75) (tgt := 76) hx hb dX7_howMany_1 (by rw [hq5]; decide) (by rw [hq5]; decide) (by rw [hq5]; decide) (by decide) ?_
    refine lv_aload_n hx hb dX7_howMany_76 rfl (lv_at hl 0 rfl) ?_
    refine lv_iconst (v := 0) hx hb dX7_howMany_77 (by decide) ?_
    obtain ⟨r3, hc, hf⟩ := jx_bs hf
    refine jx_ki (wr := []) (ws2 := (wM a cI cL nl np nt nr nh ns nk ne nw na nf r3.2.1 r3.2.2 nx)) (jx_runV (As := [.int (0 : Int32)]) (rest := []) ⟨hx, hb, hml, hown, hts⟩ (c_X7_clashMany l D a cI cL nl np nt nr nh ns nk ne nw na nf nc ng nx (0 : Int32) r3 hc _) (cwV 1 hts gX7_howMany_X7_clashMany rfl rfl rfl (by decide +kernel) ⟨Nat.le_of_ble_eq_true rfl, Nat.le_of_ble_eq_true rfl⟩) hK hN hP hD [0, 1, 2, 3, 4, 5, 6, 7] rfl (by decide) 0 6 rfl rfl rfl hl.1 rfl (Nat.le_of_ble_eq_true rfl) dX7_howMany_78 ⟨Nat.le_of_ble_eq_true rfl, Nat.le_of_ble_eq_true rfl⟩) hP hD hS hA [0, 1, 2, 3, 4, 5, 6, 7] [] [0, 1, 2, 3, 4, 5, 6, 7] rfl rfl (by decide) (by decide) rfl (by decide) (fun H locs hP hD hS => ?_)
    clear hc
    have he := jx_eq hf
    subst he
    exact jx_reti hx hb hr hlocks rfl hK hP hD hS dX7_howMany_81
  replace hf := jx_neg hq5 hf
  by_cases hq6 : p0 = (6 : Int32)
  · replace hf := jx_pos hq6 hf
    refine lv_tableIn (off := 81) (tgt := 82) hx hb dX7_howMany_1 (by rw [hq6]; decide) (by rw [hq6]; decide) (by rw [hq6]; decide) (by decide) ?_
    refine lv_aload_n hx hb dX7_howMany_82 rfl (lv_at hl 0 rfl) ?_
    refine lv_iconst (v := 1) hx hb dX7_howMany_83 (by decide) ?_
    obtain ⟨r4, hc, hf⟩ := jx_bs hf
    refine jx_ki (wr := []) (ws2 := (wM a cI cL nl np nt nr nh ns nk ne nw na nf r4.2.1 r4.2.2 nx)) (jx_runV (As := [.int (1 : Int32)]) (rest := []) ⟨hx, hb, hml, hown, hts⟩ (c_X7_clashMany l D a cI cL nl np nt nr nh ns nk ne nw na nf nc ng nx (1 : Int32) r4 hc _) (cwV 1 hts gX7_howMany_X7_clashMany rfl rfl rfl (by decide +kernel) ⟨Nat.le_of_ble_eq_true rfl, Nat.le_of_ble_eq_true rfl⟩) hK hN hP hD [0, 1, 2, 3, 4, 5, 6, 7] rfl (by decide) 0 6 rfl rfl rfl hl.1 rfl (Nat.le_of_ble_eq_true rfl) dX7_howMany_84 ⟨Nat.le_of_ble_eq_true rfl, Nat.le_of_ble_eq_true rfl⟩) hP hD hS hA [0, 1, 2, 3, 4, 5, 6, 7] [] [0, 1, 2, 3, 4, 5, 6, 7] rfl rfl (by decide) (by decide) rfl (by decide) (fun H locs hP hD hS => ?_)
    clear hc
    have he := jx_eq hf
    subst he
    exact jx_reti hx hb hr hlocks rfl hK hP hD hS dX7_howMany_87
  replace hf := jx_neg hq6 hf
  by_cases hq7 : p0 = (7 : Int32)
  · replace hf := jx_pos hq7 hf
    refine lv_tableIn (off := 87) (tgt := 88) hx hb dX7_howMany_1 (by rw [hq7]; decide) (by rw [hq7]; decide) (by rw [hq7]; decide) (by decide) ?_
    refine lv_aload_n hx hb dX7_howMany_88 rfl (lv_at hl 0 rfl) ?_
    refine va_get (D := D) (ci := 6) (v := .int ne) (C := RX7) (T := TX7) (N := 14) hx hb hts iw_X7_howMany_X7 hown hK hP 0 rfl rfl 7 (by decide) (hts (.fieldLink RX7 80 "PassedDutiesModel" "left" "I") (by decide +kernel)) (fun _ h9 => h9) rfl dX7_howMany_89 ?_
    have he := jx_eq hf
    subst he
    exact jx_reti hx hb hr hlocks rfl hK hP hD hS dX7_howMany_92
  replace hf := jx_neg hq7 hf
  refine lv_tableOut (tgt := 93) hx hb dX7_howMany_1 (jx_sw7 p0 hq0 hq1 hq2 hq3 hq4 hq5 hq6 hq7) (by decide) ?_
  refine lv_sipush (v := -1002) hx hb dX7_howMany_93 (by decide) ?_
  have he := jx_eq hf
  subst he
  exact jx_reti hx hb hr hlocks rfl hK hP hD hS dX7_howMany_96
set_option maxHeartbeats 4000000 in
set_option maxRecDepth 100000 in
theorem c_X7_count (l : Launch) (D : va_G) (a : Nat → Nat) (cI cL : ClassId) (nl : Int32) (np : (Nat → Int32)) (nt : Int32) (nr : (Nat → Int32)) (nh : Int32) (ns : (Nat → Int32)) (nk : (Nat → Int32)) (ne : Int32) (nw : Int32) (na : (Nat → Int32)) (nf : (Nat → Int32)) (nc : Int32) (ng : (Nat → Int32)) (nx : Int64) (p0 : Int32) (res : (Int32 × Int32 × (Nat → Int32))) (hf : pf_X7_count nl nt nr nh ns nk ne nc ng p0 = some res) : jMi l yX7_count wsX7_count ({ frames := 7, cells := 0, slots := 0, locals := 159 }) D [(cI, .int), (cL, .long)] [.ref (a 0), .int p0] (wM a cI cL nl np nt nr nh ns nk ne nw na nf nc ng nx) res.1 (wM a cI cL nl np nt nr nh ns nk ne nw na nf res.2.1 res.2.2 nx) := by
  intro sz
  refine Met.ofW (cc := cX7_count) (maxL := 2) (ret := (some .int)) (by decide) rfl ?_
  intro p e s m args below meth c s₁ B hml hv
  obtain ⟨rfl, hsz, hP, hK, hD0, hN⟩ := hv
  have hx := B.exec
  have hb := B.bytes
  have hr := B.returns
  have hts := atoms_spec (ws := wsX7_count) B.pre
  have hown : s.vm.findClass RX7 = some m.cls := findClass_of_methodNamed B.named
  have hlocks := B.notSynchronized
  subst hsz
  have hD := hD0.self (sz := s.heap.size)
  generalize hAe : va_A (wM a cI cL nl np nt nr nh ns nk ne nw na nf nc ng nx) s.heap.size = A at hD ⊢
  have hA : ∀ q : Nat, s.heap.size ≤ q → A q := fun q h => by rw [← hAe]; exact Or.inr h
  have hS : va_S A s.heap s.heap [] := va_S.rf
  have hl := lv_entry ([.ref (a 0), .int p0]) (n := 2) (Nat.le_of_ble_eq_true rfl)
  rw [lg_entry_eq]
  generalize (lg_sl ([.ref (a 0), .int p0]) ++ List.replicate (2 - (lg_sl ([.ref (a 0), .int p0])).length) Slot.unset).toArray = ls at hl ⊢
  have hl : lv_has ls 2 [(0, .ref (a 0)), (1, .int p0)] := hl
  have hf : pf_X7_count nl nt nr nh ns nk ne nc ng p0 = some res := hf
  refine lv_aload_n hx hb dX7_count_0 rfl (lv_at hl 0 rfl) ?_
  refine lv_iload_n hx hb dX7_count_1 rfl (lv_at hl 1 rfl) ?_
  obtain ⟨r1, hc, hf⟩ := jx_bs hf
  refine jx_ki (wr := []) (ws2 := (wM a cI cL nl np nt nr nh ns nk ne nw na nf r1.2.1 r1.2.2 nx)) (jx_runV (As := [.int p0]) (rest := []) ⟨hx, hb, hml, hown, hts⟩ (c_X7_howMany l D a cI cL nl np nt nr nh ns nk ne nw na nf nc ng nx p0 r1 hc _) (cwV 1 hts gX7_count_X7_howMany rfl rfl rfl (by decide +kernel) ⟨Nat.le_of_ble_eq_true rfl, Nat.le_of_ble_eq_true rfl⟩) hK hN hP hD [0, 1, 2, 3, 4, 5, 6, 7] rfl (by decide) 0 6 rfl rfl rfl hl.1 rfl (Nat.le_of_ble_eq_true rfl) dX7_count_2 ⟨Nat.le_of_ble_eq_true rfl, Nat.le_of_ble_eq_true rfl⟩) hP hD hS hA [0, 1, 2, 3, 4, 5, 6, 7] [] [0, 1, 2, 3, 4, 5, 6, 7] rfl rfl (by decide) (by decide) rfl (by decide) (fun H locs hP hD hS => ?_)
  clear hc
  have he := jx_eq hf
  subst he
  exact jx_reti hx hb hr hlocks rfl hK hP hD hS dX7_count_5
set_option maxHeartbeats 4000000 in
set_option maxRecDepth 100000 in
theorem c_X7_isClean (l : Launch) (D : va_G) (a : Nat → Nat) (cI cL : ClassId) (nl : Int32) (np : (Nat → Int32)) (nt : Int32) (nr : (Nat → Int32)) (nh : Int32) (ns : (Nat → Int32)) (nk : (Nat → Int32)) (ne : Int32) (nw : Int32) (na : (Nat → Int32)) (nf : (Nat → Int32)) (nc : Int32) (ng : (Nat → Int32)) (nx : Int64) (p0 : Int32) (res : Int32) (hf : pf_X7_isClean nr ns nk p0 = some res) : jMi l yX7_isClean wsX7_isClean ({ frames := 4, cells := 0, slots := 0, locals := 93 }) D [(cI, .int), (cL, .long)] [.ref (a 0), .int p0] (wM a cI cL nl np nt nr nh ns nk ne nw na nf nc ng nx) res (wM a cI cL nl np nt nr nh ns nk ne nw na nf nc ng nx) := by
  intro sz
  refine Met.ofW (cc := cX7_isClean) (maxL := 4) (ret := (some .boolean)) (by decide) rfl ?_
  intro p e s m args below meth c s₁ B hml hv
  obtain ⟨rfl, hsz, hP, hK, hD0, hN⟩ := hv
  have hx := B.exec
  have hb := B.bytes
  have hr := B.returns
  have hts := atoms_spec (ws := wsX7_isClean) B.pre
  have hown : s.vm.findClass RX7 = some m.cls := findClass_of_methodNamed B.named
  have hlocks := B.notSynchronized
  subst hsz
  have hD := hD0.self (sz := s.heap.size)
  generalize hAe : va_A (wM a cI cL nl np nt nr nh ns nk ne nw na nf nc ng nx) s.heap.size = A at hD ⊢
  have hA : ∀ q : Nat, s.heap.size ≤ q → A q := fun q h => by rw [← hAe]; exact Or.inr h
  have hS : va_S A s.heap s.heap [] := va_S.rf
  have hl := lv_entry ([.ref (a 0), .int p0]) (n := 4) (Nat.le_of_ble_eq_true rfl)
  rw [lg_entry_eq]
  generalize (lg_sl ([.ref (a 0), .int p0]) ++ List.replicate (4 - (lg_sl ([.ref (a 0), .int p0])).length) Slot.unset).toArray = ls at hl ⊢
  have hl : lv_has ls 4 [(0, .ref (a 0)), (1, .int p0)] := hl
  have hf : pf_X7_isClean nr ns nk p0 = some res := hf
  refine lv_iconst (v := 1) hx hb dX7_isClean_0 (by decide) ?_
  refine lv_istore_n (lv' := [(2, .int (1 : Int32)), (0, .ref (a 0)), (1, .int p0)]) hx hb dX7_isClean_1 rfl hl (by decide) rfl (fun ls hl => ?_)
  refine lv_iconst (v := 0) hx hb dX7_isClean_2 (by decide) ?_
  refine lv_istore_n (lv' := [(3, .int (0 : Int32)), (2, .int (1 : Int32)), (0, .ref (a 0)), (1, .int p0)]) hx hb dX7_isClean_3 rfl hl (by decide) rfl (fun ls hl => ?_)
  obtain ⟨k2, hf, hkk2⟩ := jx_bs hf
  have hXk2 : ∀ (H : Heap) (locs : List Loc) (ls : Array Slot), va_P D vwCl (wM a cI cL nl np nt nr nh ns nk ne nw na nf nc ng nx) H → va_D A (wM a cI cL nl np nt nr nh ns nk ne nw na nf nc ng nx) → va_S A s.heap H locs → lv_has ls 4 [(2, .int k2)] → jx_Wi p l e wsX7_isClean ({ frames := 4, cells := 0, slots := 0, locals := 93 }) s m [.ref (a 0), .int p0] below meth c D [(cI, .int), (cL, .long)] res (wM a cI cL nl np nt nr nh ns nk ne nw na nf nc ng nx) A H locs (F0 m 35 ls []) := by
    clear hf hP hD hS hl
    intro H locs ls hP hD hS hl
    have hf := hkk2
    refine lv_iload_n hx hb dX7_isClean_35 rfl (lv_at hl 0 rfl) ?_
    obtain ⟨hz, hf⟩ := jx_gs hf
    have he := jx_eq hf
    subst he
    exact jx_retz hx hb hr hlocks (jx_nb hz) rfl hK hP hD hS dX7_isClean_36
  have hLk2 : ∀ (n : Nat) (s1 : (Int32 × Int32)) (H : Heap) (locs : List Loc) (ls : Array Slot), jx_iter (pf_X7_isClean_s1 nr ns nk p0) n s1 = some k2 → va_P D vwCl (wM a cI cL nl np nt nr nh ns nk ne nw na nf nc ng nx) H → va_D A (wM a cI cL nl np nt nr nh ns nk ne nw na nf nc ng nx) → va_S A s.heap H locs → lv_has ls 4 [(0, .ref (a 0)), (1, .int p0), (2, .int s1.1), (3, .int s1.2)] → jx_Wi p l e wsX7_isClean ({ frames := 4, cells := 0, slots := 0, locals := 93 }) s m [.ref (a 0), .int p0] below meth c D [(cI, .int), (cL, .long)] res (wM a cI cL nl np nt nr nh ns nk ne nw na nf nc ng nx) A H locs (F0 m 4 ls []) := by
    clear hf hP hD hS hl
    intro n
    induction n with
    | zero => intro s1 _ _ _ hf; cases hf
    | succ n ihk2 =>
      intro s1 H locs ls hf hP hD hS hl
      obtain ⟨q3, hf, hgk2⟩ := jx_bs hf
      refine lv_iload_n hx hb dX7_isClean_4 rfl (lv_at hl 3 rfl) ?_
      refine lv_bipush (v := 6) hx hb dX7_isClean_5 (by decide) ?_
      refine lv_icmp_ge (tgt := 35) hx hb dX7_isClean_7 (by decide) (fun hq => ?_) (fun hq => ?_)
      · replace hf := jx_pos hq hf
        have he := jx_eq hf
        subst he
        have he : _ = k2 := jx_eq hgk2
        subst he
        exact hXk2 _ _ _ hP hD hS (lv_sub hl [2] rfl)
      · replace hf := jx_neg hq hf
        refine lv_iload_n hx hb dX7_isClean_10 rfl (lv_at hl 2 rfl) ?_
        refine lv_if_eq (tgt := 35) hx hb dX7_isClean_11 (by decide) (fun hq => ?_) (fun hq => ?_)
        · replace hf := jx_pos hq hf
          have he := jx_eq hf
          subst he
          have he : _ = k2 := jx_eq hgk2
          subst he
          exact hXk2 _ _ _ hP hD hS (lv_sub hl [2] rfl)
        · replace hf := jx_neg hq hf
          refine lv_aload_n hx hb dX7_isClean_14 rfl (lv_at hl 0 rfl) ?_
          refine lv_iload_n hx hb dX7_isClean_15 rfl (lv_at hl 1 rfl) ?_
          refine lv_iload_n hx hb dX7_isClean_16 rfl (lv_at hl 3 rfl) ?_
          obtain ⟨r4, hc, hf⟩ := jx_bs hf
          refine jx_ki (wr := []) (ws2 := (wM a cI cL nl np nt nr nh ns nk ne nw na nf nc ng nx)) (jx_runV (As := [.int p0, .int s1.2]) (rest := []) ⟨hx, hb, hml, hown, hts⟩ (c_X7_clashing l D a cI cL nl np nt nr nh ns nk ne nw na nf nc ng nx p0 s1.2 r4 hc _) (cwV 2 hts gX7_isClean_X7_clashing rfl rfl rfl (by decide +kernel) ⟨Nat.le_of_ble_eq_true rfl, Nat.le_of_ble_eq_true rfl⟩) hK hN hP hD [0, 1, 2, 3, 4, 5, 6, 7] rfl (by decide) 0 6 rfl rfl rfl hl.1 rfl (Nat.le_of_ble_eq_true rfl) dX7_isClean_17 ⟨Nat.le_of_ble_eq_true rfl, Nat.le_of_ble_eq_true rfl⟩) hP hD hS hA [0, 1, 2, 3, 4, 5, 6, 7] [] [0, 1, 2, 3, 4, 5, 6, 7] rfl rfl (by decide) (by decide) rfl (by decide) (fun H locs hP hD hS => ?_)
          clear hc
          obtain ⟨j5, hf, hkj5⟩ := jx_bs hf
          have hJj5 : ∀ (H : Heap) (locs : List Loc) (ls : Array Slot), va_P D vwCl (wM a cI cL nl np nt nr nh ns nk ne nw na nf nc ng nx) H → va_D A (wM a cI cL nl np nt nr nh ns nk ne nw na nf nc ng nx) → va_S A s.heap H locs → lv_has ls 4 [(0, .ref (a 0)), (1, .int p0), (3, .int s1.2)] → jx_Wi p l e wsX7_isClean ({ frames := 4, cells := 0, slots := 0, locals := 93 }) s m [.ref (a 0), .int p0] below meth c D [(cI, .int), (cL, .long)] res (wM a cI cL nl np nt nr nh ns nk ne nw na nf nc ng nx) A H locs (F0 m 28 ls [.int j5]) := by
            clear hf hP hD hS hl
            intro H locs ls hP hD hS hl
            have hf := hkj5
            refine lv_istore_n (lv' := [(2, .int j5), (0, .ref (a 0)), (1, .int p0), (3, .int s1.2)]) hx hb dX7_isClean_28 rfl hl (by decide) rfl (fun ls hl => ?_)
            refine lv_iinc (v := (s1.2 + (1 : Int32))) (lv' := [(3, .int (s1.2 + (1 : Int32))), (2, .int j5), (0, .ref (a 0)), (1, .int p0)]) hx hb dX7_isClean_29 hl (k := 3) rfl rfl (by decide) rfl (fun ls hl => ?_)
            refine lv_goto (tgt := 4) hx hb dX7_isClean_32 (by decide) ?_
            have he := jx_eq hf
            subst he
            exact ihk2 (j5, (s1.2 + (1 : Int32))) _ _ _ hgk2 hP hD hS (lv_sub hl [2, 3, 1, 0] rfl)
          refine lv_if_ne (tgt := 27) hx hb dX7_isClean_20 (by decide) (fun hq => ?_) (fun hq => ?_)
          · replace hf := jx_pos hq hf
            refine lv_iconst (v := 0) hx hb dX7_isClean_27 (by decide) ?_
            have he := jx_eq hf
            subst he
            exact hJj5 _ _ _ hP hD hS (lv_sub hl [0, 1, 3] rfl)
          · replace hf := jx_negn hq hf
            refine lv_iconst (v := 1) hx hb dX7_isClean_23 (by decide) ?_
            refine lv_goto (tgt := 28) hx hb dX7_isClean_24 (by decide) ?_
            have he := jx_eq hf
            subst he
            exact hJj5 _ _ _ hP hD hS (lv_sub hl [0, 1, 3] rfl)
  exact hLk2 jx_F ((1 : Int32), (0 : Int32)) _ _ _ hf hP hD hS (lv_sub hl [2, 3, 1, 0] rfl)
theorem iw_X7_cureNow_X7 : ∀ w ∈ wsX70, w ∈ wsX7_cureNow := by decide +kernel
set_option maxHeartbeats 4000000 in
set_option maxRecDepth 100000 in
theorem c_X7_cureNow (l : Launch) (D : va_G) (a : Nat → Nat) (cI cL : ClassId) (nl : Int32) (np : (Nat → Int32)) (nt : Int32) (nr : (Nat → Int32)) (nh : Int32) (ns : (Nat → Int32)) (nk : (Nat → Int32)) (ne : Int32) (nw : Int32) (na : (Nat → Int32)) (nf : (Nat → Int32)) (nc : Int32) (ng : (Nat → Int32)) (nx : Int64) (res : Int32) (hf : pf_X7_cureNow nr nh ns nk = some res) : jMi l yX7_cureNow wsX7_cureNow ({ frames := 5, cells := 0, slots := 0, locals := 116 }) D [(cI, .int), (cL, .long)] [.ref (a 0)] (wM a cI cL nl np nt nr nh ns nk ne nw na nf nc ng nx) res (wM a cI cL nl np nt nr nh ns nk ne nw na nf nc ng nx) := by
  intro sz
  refine Met.ofW (cc := cX7_cureNow) (maxL := 3) (ret := (some .int)) (by decide) rfl ?_
  intro p e s m args below meth c s₁ B hml hv
  obtain ⟨rfl, hsz, hP, hK, hD0, hN⟩ := hv
  have hx := B.exec
  have hb := B.bytes
  have hr := B.returns
  have hts := atoms_spec (ws := wsX7_cureNow) B.pre
  have hown : s.vm.findClass RX7 = some m.cls := findClass_of_methodNamed B.named
  have hlocks := B.notSynchronized
  subst hsz
  have hD := hD0.self (sz := s.heap.size)
  generalize hAe : va_A (wM a cI cL nl np nt nr nh ns nk ne nw na nf nc ng nx) s.heap.size = A at hD ⊢
  have hA : ∀ q : Nat, s.heap.size ≤ q → A q := fun q h => by rw [← hAe]; exact Or.inr h
  have hS : va_S A s.heap s.heap [] := va_S.rf
  have hl := lv_entry ([.ref (a 0)]) (n := 3) (Nat.le_of_ble_eq_true rfl)
  rw [lg_entry_eq]
  generalize (lg_sl ([.ref (a 0)]) ++ List.replicate (3 - (lg_sl ([.ref (a 0)])).length) Slot.unset).toArray = ls at hl ⊢
  have hl : lv_has ls 3 [(0, .ref (a 0))] := hl
  have hf : pf_X7_cureNow nr nh ns nk = some res := hf
  refine lv_iconst (v := 0) hx hb dX7_cureNow_0 (by decide) ?_
  refine lv_istore_n (lv' := [(1, .int (0 : Int32)), (0, .ref (a 0))]) hx hb dX7_cureNow_1 rfl hl (by decide) rfl (fun ls hl => ?_)
  obtain ⟨k2, hf, hkk2⟩ := jx_bs hf
  have hXk2 : ∀ (xk2 : Unit), k2 = Sum.inl xk2 → ∀ (H : Heap) (locs : List Loc) (ls : Array Slot), va_P D vwCl (wM a cI cL nl np nt nr nh ns nk ne nw na nf nc ng nx) H → va_D A (wM a cI cL nl np nt nr nh ns nk ne nw na nf nc ng nx) → va_S A s.heap H locs → lv_has ls 3 [(0, .ref (a 0))] → jx_Wi p l e wsX7_cureNow ({ frames := 5, cells := 0, slots := 0, locals := 116 }) s m [.ref (a 0)] below meth c D [(cI, .int), (cL, .long)] res (wM a cI cL nl np nt nr nh ns nk ne nw na nf nc ng nx) A H locs (F0 m 65 ls []) := by
    clear hf hP hD hS hl
    intro xk2 he H locs ls hP hD hS hl
    subst he
    have hf := hkk2
    refine lv_aload_n hx hb dX7_cureNow_65 rfl (lv_at hl 0 rfl) ?_
    refine va_get (D := D) (ci := 6) (v := .int nh) (C := RX7) (T := TX7) (N := 14) hx hb hts iw_X7_cureNow_X7 hown hK hP 0 rfl rfl 4 (by decide) (hts (.fieldLink RX7 65 "PassedDutiesModel" "there" "I") (by decide +kernel)) (fun _ h9 => h9) rfl dX7_cureNow_66 ?_
    have he := jx_eq hf
    subst he
    exact jx_reti hx hb hr hlocks rfl hK hP hD hS dX7_cureNow_69
  have hLk2 : ∀ (n : Nat) (s1 : Int32) (H : Heap) (locs : List Loc) (ls : Array Slot), jx_iter (pf_X7_cureNow_s1 nr nh ns nk) n s1 = some k2 → va_P D vwCl (wM a cI cL nl np nt nr nh ns nk ne nw na nf nc ng nx) H → va_D A (wM a cI cL nl np nt nr nh ns nk ne nw na nf nc ng nx) → va_S A s.heap H locs → lv_has ls 3 [(0, .ref (a 0)), (1, .int s1)] → jx_Wi p l e wsX7_cureNow ({ frames := 5, cells := 0, slots := 0, locals := 116 }) s m [.ref (a 0)] below meth c D [(cI, .int), (cL, .long)] res (wM a cI cL nl np nt nr nh ns nk ne nw na nf nc ng nx) A H locs (F0 m 2 ls []) := by
    clear hf hP hD hS hl
    intro n
    induction n with
    | zero => intro s1 _ _ _ hf; cases hf
    | succ n ihk2 =>
      intro s1 H locs ls hf hP hD hS hl
      obtain ⟨q3, hf, hgk2⟩ := jx_bs hf
      refine lv_iload_n hx hb dX7_cureNow_2 rfl (lv_at hl 1 rfl) ?_
      refine lv_bipush (v := 8) hx hb dX7_cureNow_3 (by decide) ?_
      refine lv_icmp_ge (tgt := 65) hx hb dX7_cureNow_5 (by decide) (fun hq => ?_) (fun hq => ?_)
      · replace hf := jx_pos hq hf
        have he := jx_eq hf
        subst he
        have he : Sum.inl _ = k2 := jx_eq hgk2
        subst he
        exact hXk2 _ rfl _ _ _ hP hD hS (lv_sub hl [0] rfl)
      · replace hf := jx_neg hq hf
        refine lv_iconst (v := 0) hx hb dX7_cureNow_8 (by decide) ?_
        refine lv_istore_n (lv' := [(2, .int (0 : Int32)), (0, .ref (a 0)), (1, .int s1)]) hx hb dX7_cureNow_9 rfl hl (by decide) rfl (fun ls hl => ?_)
        obtain ⟨k5, hf, hkk5⟩ := jx_bs hf
        have hXk5 : ∀ (xk5 : Unit), k5 = Sum.inl xk5 → ∀ (H : Heap) (locs : List Loc) (ls : Array Slot), va_P D vwCl (wM a cI cL nl np nt nr nh ns nk ne nw na nf nc ng nx) H → va_D A (wM a cI cL nl np nt nr nh ns nk ne nw na nf nc ng nx) → va_S A s.heap H locs → lv_has ls 3 [(0, .ref (a 0)), (1, .int s1)] → jx_Wi p l e wsX7_cureNow ({ frames := 5, cells := 0, slots := 0, locals := 116 }) s m [.ref (a 0)] below meth c D [(cI, .int), (cL, .long)] res (wM a cI cL nl np nt nr nh ns nk ne nw na nf nc ng nx) A H locs (F0 m 59 ls []) := by
          clear hf hP hD hS hl
          intro xk5 he H locs ls hP hD hS hl
          subst he
          have hf := hkk5
          refine lv_iinc (v := (s1 + (1 : Int32))) (lv' := [(1, .int (s1 + (1 : Int32))), (0, .ref (a 0))]) hx hb dX7_cureNow_59 hl (k := 1) rfl rfl (by decide) rfl (fun ls hl => ?_)
          refine lv_goto (tgt := 2) hx hb dX7_cureNow_62 (by decide) ?_
          have he := jx_eq hf
          subst he
          exact ihk2 (s1 + (1 : Int32)) _ _ _ hgk2 hP hD hS (lv_sub hl [1, 0] rfl)
        have hLk5 : ∀ (n : Nat) (s4 : Int32) (H : Heap) (locs : List Loc) (ls : Array Slot), jx_iter (pf_X7_cureNow_s2 nr nh ns nk s1) n s4 = some k5 → va_P D vwCl (wM a cI cL nl np nt nr nh ns nk ne nw na nf nc ng nx) H → va_D A (wM a cI cL nl np nt nr nh ns nk ne nw na nf nc ng nx) → va_S A s.heap H locs → lv_has ls 3 [(0, .ref (a 0)), (1, .int s1), (2, .int s4)] → jx_Wi p l e wsX7_cureNow ({ frames := 5, cells := 0, slots := 0, locals := 116 }) s m [.ref (a 0)] below meth c D [(cI, .int), (cL, .long)] res (wM a cI cL nl np nt nr nh ns nk ne nw na nf nc ng nx) A H locs (F0 m 10 ls []) := by
          clear hf hP hD hS hl
          intro n
          induction n with
          | zero => intro s4 _ _ _ hf; cases hf
          | succ n ihk5 =>
            intro s4 H locs ls hf hP hD hS hl
            obtain ⟨q6, hf, hgk5⟩ := jx_bs hf
            refine lv_iload_n hx hb dX7_cureNow_10 rfl (lv_at hl 2 rfl) ?_
            refine lv_sipush (v := 256) hx hb dX7_cureNow_11 (by decide) ?_
            refine lv_icmp_ge (tgt := 59) hx hb dX7_cureNow_14 (by decide) (fun hq => ?_) (fun hq => ?_)
            · replace hf := jx_pos hq hf
              have he := jx_eq hf
              subst he
              have he : Sum.inl _ = k5 := jx_eq hgk5
              subst he
              exact hXk5 _ rfl _ _ _ hP hD hS (lv_sub hl [0, 1] rfl)
            · replace hf := jx_neg hq hf
              refine lv_iload_n hx hb dX7_cureNow_17 rfl (lv_at hl 2 rfl) ?_
              refine lv_aload_n hx hb dX7_cureNow_18 rfl (lv_at hl 0 rfl) ?_
              refine va_get (D := D) (ci := 6) (v := .int nh) (C := RX7) (T := TX7) (N := 14) hx hb hts iw_X7_cureNow_X7 hown hK hP 0 rfl rfl 4 (by decide) (hts (.fieldLink RX7 65 "PassedDutiesModel" "there" "I") (by decide +kernel)) (fun _ h9 => h9) rfl dX7_cureNow_19 ?_
              refine lv_iconst (v := -1) hx hb dX7_cureNow_22 (by decide) ?_
              refine lv_ixor hx hb dX7_cureNow_23 ?_
              refine lv_iand hx hb dX7_cureNow_24 ?_
              refine lv_if_ne (tgt := 53) hx hb dX7_cureNow_25 (by decide) (fun hq => ?_) (fun hq => ?_)
              · replace hf := jx_pos hq hf
                refine lv_iinc (v := (s4 + (1 : Int32))) (lv' := [(2, .int (s4 + (1 : Int32))), (0, .ref (a 0)), (1, .int s1)]) hx hb dX7_cureNow_53 hl (k := 2) rfl rfl (by decide) rfl (fun ls hl => ?_)
                refine lv_goto (tgt := 10) hx hb dX7_cureNow_56 (by decide) ?_
                have he := jx_eq hf
                subst he
                exact ihk5 (s4 + (1 : Int32)) _ _ _ hgk5 hP hD hS (lv_sub hl [1, 2, 0] rfl)
              · replace hf := jx_negn hq hf
                refine lv_iload_n hx hb dX7_cureNow_28 rfl (lv_at hl 2 rfl) ?_
                obtain ⟨r7, hc, hf⟩ := jx_bs hf
                refine jx_ki (wr := [((a 0), .inr (6, [.int nl, .ref (a 1), .int nt, .ref (a 2), .int nh, .ref (a 3), .ref (a 4), .int ne, .int nw, .ref (a 5), .ref (a 6), .int nc, .ref (a 7), .long nx])), ((a 1), .inl (cI, 24, .inl np)), ((a 2), .inl (cI, 108, .inl nr)), ((a 3), .inl (cI, 8, .inl ns)), ((a 4), .inl (cI, 64, .inl nk)), ((a 5), .inl (cI, 8, .inl na)), ((a 6), .inl (cI, 8, .inl nf)), ((a 7), .inl (cI, 48, .inl ng))]) (ws2 := (wM a cI cL nl np nt nr nh ns nk ne nw na nf nc ng nx)) (jx_runS (As := [.int s4]) (rest := []) ⟨hx, hb, hml, hown, hts⟩ (c_X7_ones l D a cI cL s4 r7 hc _) (va_cwS 1 hts gX7_cureNow_X7_ones rfl rfl rfl (by decide +kernel) ⟨Nat.le_of_ble_eq_true rfl, Nat.le_of_ble_eq_true rfl⟩) hK hN hP hD [] rfl (by decide) rfl hl.1 rfl (Nat.le_of_ble_eq_true rfl) dX7_cureNow_29 ⟨Nat.le_of_ble_eq_true rfl, Nat.le_of_ble_eq_true rfl⟩) hP hD hS hA [] [0, 1, 2, 3, 4, 5, 6, 7] [0, 1, 2, 3, 4, 5, 6, 7] rfl rfl (by decide) (by decide) rfl (by decide) (fun H locs hP hD hS => ?_)
                clear hc
                refine lv_iload_n hx hb dX7_cureNow_32 rfl (lv_at hl 1 rfl) ?_
                refine lv_icmp_ne (tgt := 53) hx hb dX7_cureNow_33 (by decide) (fun hq => ?_) (fun hq => ?_)
                · replace hf := jx_pos hq hf
                  refine lv_iinc (v := (s4 + (1 : Int32))) (lv' := [(2, .int (s4 + (1 : Int32))), (0, .ref (a 0)), (1, .int s1)]) hx hb dX7_cureNow_53 hl (k := 2) rfl rfl (by decide) rfl (fun ls hl => ?_)
                  refine lv_goto (tgt := 10) hx hb dX7_cureNow_56 (by decide) ?_
                  have he := jx_eq hf
                  subst he
                  exact ihk5 (s4 + (1 : Int32)) _ _ _ hgk5 hP hD hS (lv_sub hl [1, 2, 0] rfl)
                · replace hf := jx_negn hq hf
                  refine lv_aload_n hx hb dX7_cureNow_36 rfl (lv_at hl 0 rfl) ?_
                  refine lv_aload_n hx hb dX7_cureNow_37 rfl (lv_at hl 0 rfl) ?_
                  refine va_get (D := D) (ci := 6) (v := .int nh) (C := RX7) (T := TX7) (N := 14) hx hb hts iw_X7_cureNow_X7 hown hK hP 0 rfl rfl 4 (by decide) (hts (.fieldLink RX7 65 "PassedDutiesModel" "there" "I") (by decide +kernel)) (fun _ h9 => h9) rfl dX7_cureNow_38 ?_
                  refine lv_iload_n hx hb dX7_cureNow_41 rfl (lv_at hl 2 rfl) ?_
                  refine lv_iconst (v := -1) hx hb dX7_cureNow_42 (by decide) ?_
                  refine lv_ixor hx hb dX7_cureNow_43 ?_
                  refine lv_iand hx hb dX7_cureNow_44 ?_
                  obtain ⟨r8, hc, hf⟩ := jx_bs hf
                  refine jx_ki (wr := []) (ws2 := (wM a cI cL nl np nt nr nh ns nk ne nw na nf nc ng nx)) (jx_runV (As := [.int (nh &&& (s4 ^^^ (-1 : Int32)))]) (rest := []) ⟨hx, hb, hml, hown, hts⟩ (c_X7_isClean l D a cI cL nl np nt nr nh ns nk ne nw na nf nc ng nx (nh &&& (s4 ^^^ (-1 : Int32))) r8 hc _) (cwV 1 hts gX7_cureNow_X7_isClean rfl rfl rfl (by decide +kernel) ⟨Nat.le_of_ble_eq_true rfl, Nat.le_of_ble_eq_true rfl⟩) hK hN hP hD [0, 1, 2, 3, 4, 5, 6, 7] rfl (by decide) 0 6 rfl rfl rfl hl.1 rfl (Nat.le_of_ble_eq_true rfl) dX7_cureNow_45 ⟨Nat.le_of_ble_eq_true rfl, Nat.le_of_ble_eq_true rfl⟩) hP hD hS hA [0, 1, 2, 3, 4, 5, 6, 7] [] [0, 1, 2, 3, 4, 5, 6, 7] rfl rfl (by decide) (by decide) rfl (by decide) (fun H locs hP hD hS => ?_)
                  clear hc
                  refine lv_if_eq (tgt := 53) hx hb dX7_cureNow_48 (by decide) (fun hq => ?_) (fun hq => ?_)
                  · replace hf := jx_pos hq hf
                    refine lv_iinc (v := (s4 + (1 : Int32))) (lv' := [(2, .int (s4 + (1 : Int32))), (0, .ref (a 0)), (1, .int s1)]) hx hb dX7_cureNow_53 hl (k := 2) rfl rfl (by decide) rfl (fun ls hl => ?_)
                    refine lv_goto (tgt := 10) hx hb dX7_cureNow_56 (by decide) ?_
                    have he := jx_eq hf
                    subst he
                    exact ihk5 (s4 + (1 : Int32)) _ _ _ hgk5 hP hD hS (lv_sub hl [1, 2, 0] rfl)
                  · replace hf := jx_neg hq hf
                    refine lv_iload_n hx hb dX7_cureNow_51 rfl (lv_at hl 2 rfl) ?_
                    have he := jx_eq hf
                    subst he
                    have he : Sum.inr _ = k5 := jx_eq hgk5
                    subst he
                    have hf := hkk5
                    have he := jx_eq hf
                    subst he
                    have he : Sum.inr _ = k2 := jx_eq hgk2
                    subst he
                    have hf := hkk2
                    have he := jx_eq hf
                    subst he
                    exact jx_reti hx hb hr hlocks rfl hK hP hD hS dX7_cureNow_52
        exact hLk5 jx_F (0 : Int32) _ _ _ hf hP hD hS (lv_sub hl [1, 2, 0] rfl)
  exact hLk2 jx_F (0 : Int32) _ _ _ hf hP hD hS (lv_sub hl [1, 0] rfl)
set_option maxHeartbeats 4000000 in
set_option maxRecDepth 100000 in
theorem c_X7_cure (l : Launch) (D : va_G) (a : Nat → Nat) (cI cL : ClassId) (nl : Int32) (np : (Nat → Int32)) (nt : Int32) (nr : (Nat → Int32)) (nh : Int32) (ns : (Nat → Int32)) (nk : (Nat → Int32)) (ne : Int32) (nw : Int32) (na : (Nat → Int32)) (nf : (Nat → Int32)) (nc : Int32) (ng : (Nat → Int32)) (nx : Int64) (res : Int32) (hf : pf_X7_cure nr nh ns nk = some res) : jMi l yX7_cure wsX7_cure ({ frames := 6, cells := 0, slots := 0, locals := 138 }) D [(cI, .int), (cL, .long)] [.ref (a 0)] (wM a cI cL nl np nt nr nh ns nk ne nw na nf nc ng nx) res (wM a cI cL nl np nt nr nh ns nk ne nw na nf nc ng nx) := by
  intro sz
  refine Met.ofW (cc := cX7_cure) (maxL := 1) (ret := (some .int)) (by decide) rfl ?_
  intro p e s m args below meth c s₁ B hml hv
  obtain ⟨rfl, hsz, hP, hK, hD0, hN⟩ := hv
  have hx := B.exec
  have hb := B.bytes
  have hr := B.returns
  have hts := atoms_spec (ws := wsX7_cure) B.pre
  have hown : s.vm.findClass RX7 = some m.cls := findClass_of_methodNamed B.named
  have hlocks := B.notSynchronized
  subst hsz
  have hD := hD0.self (sz := s.heap.size)
  generalize hAe : va_A (wM a cI cL nl np nt nr nh ns nk ne nw na nf nc ng nx) s.heap.size = A at hD ⊢
  have hA : ∀ q : Nat, s.heap.size ≤ q → A q := fun q h => by rw [← hAe]; exact Or.inr h
  have hS : va_S A s.heap s.heap [] := va_S.rf
  have hl := lv_entry ([.ref (a 0)]) (n := 1) (Nat.le_of_ble_eq_true rfl)
  rw [lg_entry_eq]
  generalize (lg_sl ([.ref (a 0)]) ++ List.replicate (1 - (lg_sl ([.ref (a 0)])).length) Slot.unset).toArray = ls at hl ⊢
  have hl : lv_has ls 1 [(0, .ref (a 0))] := hl
  have hf : pf_X7_cure nr nh ns nk = some res := hf
  refine lv_aload_n hx hb dX7_cure_0 rfl (lv_at hl 0 rfl) ?_
  obtain ⟨r1, hc, hf⟩ := jx_bs hf
  refine jx_ki (wr := []) (ws2 := (wM a cI cL nl np nt nr nh ns nk ne nw na nf nc ng nx)) (jx_runV (As := []) (rest := []) ⟨hx, hb, hml, hown, hts⟩ (c_X7_cureNow l D a cI cL nl np nt nr nh ns nk ne nw na nf nc ng nx r1 hc _) (cwV 0 hts gX7_cure_X7_cureNow rfl rfl rfl (by decide +kernel) ⟨Nat.le_of_ble_eq_true rfl, Nat.le_of_ble_eq_true rfl⟩) hK hN hP hD [0, 1, 2, 3, 4, 5, 6, 7] rfl (by decide) 0 6 rfl rfl rfl hl.1 rfl (Nat.le_of_ble_eq_true rfl) dX7_cure_1 ⟨Nat.le_of_ble_eq_true rfl, Nat.le_of_ble_eq_true rfl⟩) hP hD hS hA [0, 1, 2, 3, 4, 5, 6, 7] [] [0, 1, 2, 3, 4, 5, 6, 7] rfl rfl (by decide) (by decide) rfl (by decide) (fun H locs hP hD hS => ?_)
  clear hc
  have he := jx_eq hf
  subst he
  exact jx_reti hx hb hr hlocks rfl hK hP hD hS dX7_cure_4
theorem iw_X7_mix_X7 : ∀ w ∈ wsX70, w ∈ wsX7_mix := by decide +kernel
set_option maxHeartbeats 4000000 in
set_option maxRecDepth 100000 in
theorem c_X7_mix (l : Launch) (D : va_G) (a : Nat → Nat) (cI cL : ClassId) (nl : Int32) (np : (Nat → Int32)) (nt : Int32) (nr : (Nat → Int32)) (nh : Int32) (ns : (Nat → Int32)) (nk : (Nat → Int32)) (ne : Int32) (nw : Int32) (na : (Nat → Int32)) (nf : (Nat → Int32)) (nc : Int32) (ng : (Nat → Int32)) (nx : Int64) (p0 : Int64) (res : Int64) (hf : pf_X7_mix nx p0 = some res) : jMv l yX7_mix wsX7_mix ({ frames := 0, cells := 0, slots := 0, locals := 0 }) D [(cI, .int), (cL, .long)] [.ref (a 0), .long p0] (wM a cI cL nl np nt nr nh ns nk ne nw na nf nc ng nx) (wM a cI cL nl np nt nr nh ns nk ne nw na nf nc ng res) := by
  intro sz
  refine Met.ofW (cc := cX7_mix) (maxL := 3) (ret := none) (by decide) rfl ?_
  intro p e s m args below meth c s₁ B hml hv
  obtain ⟨rfl, hsz, hP, hK, hD0, hN⟩ := hv
  have hx := B.exec
  have hb := B.bytes
  have hr := B.returns
  have hts := atoms_spec (ws := wsX7_mix) B.pre
  have hown : s.vm.findClass RX7 = some m.cls := findClass_of_methodNamed B.named
  have hlocks := B.notSynchronized
  subst hsz
  have hD := hD0.self (sz := s.heap.size)
  generalize hAe : va_A (wM a cI cL nl np nt nr nh ns nk ne nw na nf nc ng nx) s.heap.size = A at hD ⊢
  have hA : ∀ q : Nat, s.heap.size ≤ q → A q := fun q h => by rw [← hAe]; exact Or.inr h
  have hS : va_S A s.heap s.heap [] := va_S.rf
  have hl := lv_entry ([.ref (a 0), .long p0]) (n := 3) (Nat.le_of_ble_eq_true rfl)
  rw [lg_entry_eq]
  generalize (lg_sl ([.ref (a 0), .long p0]) ++ List.replicate (3 - (lg_sl ([.ref (a 0), .long p0])).length) Slot.unset).toArray = ls at hl ⊢
  have hl : lv_has ls 3 [(0, .ref (a 0)), (1, .long p0)] := hl
  have hf : pf_X7_mix nx p0 = some res := hf
  refine lv_aload_n hx hb dX7_mix_0 rfl (lv_at hl 0 rfl) ?_
  refine lv_ldc2 (v := 31) hx hb hown (hts (.constantLong RX7 150 (31)) (by decide +kernel)) dX7_mix_1 ?_
  refine lv_aload_n hx hb dX7_mix_4 rfl (lv_at hl 0 rfl) ?_
  refine va_get (D := D) (ci := 6) (v := .long nx) (C := RX7) (T := TX7) (N := 14) hx hb hts iw_X7_mix_X7 hown hK hP 0 rfl rfl 13 (by decide) (hts (.fieldLink RX7 152 "PassedDutiesModel" "h" "J") (by decide +kernel)) (fun _ h9 => h9) rfl dX7_mix_5 ?_
  refine lv_lmul hx hb dX7_mix_8 ?_
  refine lv_lload_n hx hb dX7_mix_9 rfl (lv_at hl 1 rfl) ?_
  refine lv_ladd hx hb dX7_mix_10 ?_
  refine va_put (D := D) (ci := 6) (v := .long (((31 : Int64) * nx) + p0)) (ty := .long) (C := RX7) (T := TX7) (N := 14) hx hb hts iw_X7_mix_X7 tyX7 tyX7_ok nmX7 hown hK hP hD hS 0 rfl rfl 13 (by decide) (hts (.fieldLink RX7 152 "PassedDutiesModel" "h" "J") (by decide +kernel)) (fun _ h9 => h9) rfl (by decide +kernel) rfl rfl (Nat.le_of_ble_eq_true rfl) dX7_mix_11 (fun H locs hP hD hS => ?_)
  have hP : va_P D vwCl (wM a cI cL nl np nt nr nh ns nk ne nw na nf nc ng (((31 : Int64) * nx) + p0)) H := hP
  have hD : va_D A (wM a cI cL nl np nt nr nh ns nk ne nw na nf nc ng (((31 : Int64) * nx) + p0)) := hD
  have he := jx_eq hf
  subst he
  exact jx_retv hx hb hr hlocks hK hP hD hS dX7_mix_14
theorem iw_X7_isLet_X7 : ∀ w ∈ wsX70, w ∈ wsX7_isLet := by decide +kernel
set_option maxHeartbeats 4000000 in
set_option maxRecDepth 100000 in
theorem c_X7_isLet (l : Launch) (D : va_G) (a : Nat → Nat) (cI cL : ClassId) (nl : Int32) (np : (Nat → Int32)) (nt : Int32) (nr : (Nat → Int32)) (nh : Int32) (ns : (Nat → Int32)) (nk : (Nat → Int32)) (ne : Int32) (nw : Int32) (na : (Nat → Int32)) (nf : (Nat → Int32)) (nc : Int32) (ng : (Nat → Int32)) (nx : Int64) (p0 : Int32) (p1 : Int32) (p2 : Int32) (res : Int32) (hf : pf_X7_isLet nh nk p0 p1 p2 = some res) : jMi l yX7_isLet wsX7_isLet ({ frames := 1, cells := 0, slots := 0, locals := 21 }) D [(cI, .int), (cL, .long)] [.ref (a 0), .int p0, .int p1, .int p2] (wM a cI cL nl np nt nr nh ns nk ne nw na nf nc ng nx) res (wM a cI cL nl np nt nr nh ns nk ne nw na nf nc ng nx) := by
  intro sz
  refine Met.ofW (cc := cX7_isLet) (maxL := 5) (ret := (some .boolean)) (by decide) rfl ?_
  intro p e s m args below meth c s₁ B hml hv
  obtain ⟨rfl, hsz, hP, hK, hD0, hN⟩ := hv
  have hx := B.exec
  have hb := B.bytes
  have hr := B.returns
  have hts := atoms_spec (ws := wsX7_isLet) B.pre
  have hown : s.vm.findClass RX7 = some m.cls := findClass_of_methodNamed B.named
  have hlocks := B.notSynchronized
  subst hsz
  have hD := hD0.self (sz := s.heap.size)
  generalize hAe : va_A (wM a cI cL nl np nt nr nh ns nk ne nw na nf nc ng nx) s.heap.size = A at hD ⊢
  have hA : ∀ q : Nat, s.heap.size ≤ q → A q := fun q h => by rw [← hAe]; exact Or.inr h
  have hS : va_S A s.heap s.heap [] := va_S.rf
  have hl := lv_entry ([.ref (a 0), .int p0, .int p1, .int p2]) (n := 5) (Nat.le_of_ble_eq_true rfl)
  rw [lg_entry_eq]
  generalize (lg_sl ([.ref (a 0), .int p0, .int p1, .int p2]) ++ List.replicate (5 - (lg_sl ([.ref (a 0), .int p0, .int p1, .int p2])).length) Slot.unset).toArray = ls at hl ⊢
  have hl : lv_has ls 5 [(0, .ref (a 0)), (1, .int p0), (2, .int p1), (3, .int p2)] := hl
  have hf : pf_X7_isLet nh nk p0 p1 p2 = some res := hf
  refine lv_aload_n hx hb dX7_isLet_0 rfl (lv_at hl 0 rfl) ?_
  refine va_get (D := D) (ci := 6) (v := .ref (a 4)) (C := RX7) (T := TX7) (N := 14) hx hb hts iw_X7_isLet_X7 hown hK hP 0 rfl rfl 6 (by decide) (hts (.fieldLink RX7 19 "PassedDutiesModel" "kinds" "[I") (by decide +kernel)) (fun _ h9 => h9) rfl dX7_isLet_1 ?_
  refine lv_bipush (v := 8) hx hb dX7_isLet_4 (by decide) ?_
  refine lv_iload_n hx hb dX7_isLet_6 rfl (lv_at hl 1 rfl) ?_
  refine lv_imul hx hb dX7_isLet_7 ?_
  refine lv_iload_n hx hb dX7_isLet_8 rfl (lv_at hl 2 rfl) ?_
  refine lv_iadd hx hb dX7_isLet_9 ?_
  obtain ⟨hi, hf⟩ := jx_gs hf
  refine va_iald hx hb hK hP 4 0 rfl rfl (jx_ip hi) dX7_isLet_10 ?_
  clear hi
  refine lv_istore (lv' := [(4, .int (nk ((((8 : Int32) * p0) + p1)).toNatClampNeg)), (0, .ref (a 0)), (1, .int p0), (2, .int p1), (3, .int p2)]) hx hb dX7_isLet_11 hl (by decide) rfl (fun ls hl => ?_)
  refine lv_aload_n hx hb dX7_isLet_13 rfl (lv_at hl 1 rfl) ?_
  refine va_get (D := D) (ci := 6) (v := .int nh) (C := RX7) (T := TX7) (N := 14) hx hb hts iw_X7_isLet_X7 hown hK hP 0 rfl rfl 4 (by decide) (hts (.fieldLink RX7 65 "PassedDutiesModel" "there" "I") (by decide +kernel)) (fun _ h9 => h9) rfl dX7_isLet_14 ?_
  refine lv_iload_n hx hb dX7_isLet_17 rfl (lv_at hl 2 rfl) ?_
  obtain ⟨r1, hc, hf⟩ := jx_bs hf
  refine jx_ki (wr := [((a 0), .inr (6, [.int nl, .ref (a 1), .int nt, .ref (a 2), .int nh, .ref (a 3), .ref (a 4), .int ne, .int nw, .ref (a 5), .ref (a 6), .int nc, .ref (a 7), .long nx])), ((a 1), .inl (cI, 24, .inl np)), ((a 2), .inl (cI, 108, .inl nr)), ((a 3), .inl (cI, 8, .inl ns)), ((a 4), .inl (cI, 64, .inl nk)), ((a 5), .inl (cI, 8, .inl na)), ((a 6), .inl (cI, 8, .inl nf)), ((a 7), .inl (cI, 48, .inl ng))]) (ws2 := (wM a cI cL nl np nt nr nh ns nk ne nw na nf nc ng nx)) (jx_runS (As := [.int nh, .int p0]) (rest := []) ⟨hx, hb, hml, hown, hts⟩ (c_X7_has l D a cI cL nh p0 r1 hc _) (va_cwS 2 hts gX7_isLet_X7_has rfl rfl rfl (by decide +kernel) ⟨Nat.le_of_ble_eq_true rfl, Nat.le_of_ble_eq_true rfl⟩) hK hN hP hD [] rfl (by decide) rfl hl.1 rfl (Nat.le_of_ble_eq_true rfl) dX7_isLet_18 ⟨Nat.le_of_ble_eq_true rfl, Nat.le_of_ble_eq_true rfl⟩) hP hD hS hA [] [0, 1, 2, 3, 4, 5, 6, 7] [0, 1, 2, 3, 4, 5, 6, 7] rfl rfl (by decide) (by decide) rfl (by decide) (fun H locs hP hD hS => ?_)
  clear hc
  refine lv_if_eq (tgt := 51) hx hb dX7_isLet_21 (by decide) (fun hq => ?_) (fun hq => ?_)
  · replace hf := jx_pos hq hf
    refine lv_iconst (v := 0) hx hb dX7_isLet_51 (by decide) ?_
    have he := jx_eq hf
    subst he
    exact jx_retz hx hb hr hlocks narrow_b0 rfl hK hP hD hS dX7_isLet_52
  · replace hf := jx_neg hq hf
    refine lv_aload_n hx hb dX7_isLet_24 rfl (lv_at hl 1 rfl) ?_
    refine va_get (D := D) (ci := 6) (v := .int nh) (C := RX7) (T := TX7) (N := 14) hx hb hts iw_X7_isLet_X7 hown hK hP 0 rfl rfl 4 (by decide) (hts (.fieldLink RX7 65 "PassedDutiesModel" "there" "I") (by decide +kernel)) (fun _ h9 => h9) rfl dX7_isLet_25 ?_
    refine lv_iload_n hx hb dX7_isLet_28 rfl (lv_at hl 3 rfl) ?_
    obtain ⟨r2, hc, hf⟩ := jx_bs hf
    refine jx_ki (wr := [((a 0), .inr (6, [.int nl, .ref (a 1), .int nt, .ref (a 2), .int nh, .ref (a 3), .ref (a 4), .int ne, .int nw, .ref (a 5), .ref (a 6), .int nc, .ref (a 7), .long nx])), ((a 1), .inl (cI, 24, .inl np)), ((a 2), .inl (cI, 108, .inl nr)), ((a 3), .inl (cI, 8, .inl ns)), ((a 4), .inl (cI, 64, .inl nk)), ((a 5), .inl (cI, 8, .inl na)), ((a 6), .inl (cI, 8, .inl nf)), ((a 7), .inl (cI, 48, .inl ng))]) (ws2 := (wM a cI cL nl np nt nr nh ns nk ne nw na nf nc ng nx)) (jx_runS (As := [.int nh, .int p1]) (rest := []) ⟨hx, hb, hml, hown, hts⟩ (c_X7_has l D a cI cL nh p1 r2 hc _) (va_cwS 2 hts gX7_isLet_X7_has rfl rfl rfl (by decide +kernel) ⟨Nat.le_of_ble_eq_true rfl, Nat.le_of_ble_eq_true rfl⟩) hK hN hP hD [] rfl (by decide) rfl hl.1 rfl (Nat.le_of_ble_eq_true rfl) dX7_isLet_29 ⟨Nat.le_of_ble_eq_true rfl, Nat.le_of_ble_eq_true rfl⟩) hP hD hS hA [] [0, 1, 2, 3, 4, 5, 6, 7] [0, 1, 2, 3, 4, 5, 6, 7] rfl rfl (by decide) (by decide) rfl (by decide) (fun H locs hP hD hS => ?_)
    clear hc
    refine lv_if_eq (tgt := 51) hx hb dX7_isLet_32 (by decide) (fun hq => ?_) (fun hq => ?_)
    · replace hf := jx_pos hq hf
      refine lv_iconst (v := 0) hx hb dX7_isLet_51 (by decide) ?_
      have he := jx_eq hf
      subst he
      exact jx_retz hx hb hr hlocks narrow_b0 rfl hK hP hD hS dX7_isLet_52
    · replace hf := jx_neg hq hf
      refine lv_iload hx hb dX7_isLet_35 (lv_at hl 0 rfl) ?_
      refine lv_iconst (v := -1) hx hb dX7_isLet_37 (by decide) ?_
      refine lv_icmp_eq (tgt := 51) hx hb dX7_isLet_38 (by decide) (fun hq => ?_) (fun hq => ?_)
      · replace hf := jx_pos hq hf
        refine lv_iconst (v := 0) hx hb dX7_isLet_51 (by decide) ?_
        have he := jx_eq hf
        subst he
        exact jx_retz hx hb hr hlocks narrow_b0 rfl hK hP hD hS dX7_isLet_52
      · replace hf := jx_neg hq hf
        refine lv_iload hx hb dX7_isLet_41 (lv_at hl 0 rfl) ?_
        refine lv_iload_n hx hb dX7_isLet_43 rfl (lv_at hl 4 rfl) ?_
        refine lv_icmp_ge (tgt := 51) hx hb dX7_isLet_44 (by decide) (fun hq => ?_) (fun hq => ?_)
        · replace hf := jx_pos hq hf
          refine lv_iconst (v := 0) hx hb dX7_isLet_51 (by decide) ?_
          have he := jx_eq hf
          subst he
          exact jx_retz hx hb hr hlocks narrow_b0 rfl hK hP hD hS dX7_isLet_52
        · replace hf := jx_neg hq hf
          refine lv_iconst (v := 1) hx hb dX7_isLet_47 (by decide) ?_
          refine lv_goto (tgt := 52) hx hb dX7_isLet_48 (by decide) ?_
          have he := jx_eq hf
          subst he
          exact jx_retz hx hb hr hlocks narrow_b1 rfl hK hP hD hS dX7_isLet_52
set_option maxHeartbeats 4000000 in
set_option maxRecDepth 100000 in
theorem c_X7_namesOf (l : Launch) (D : va_G) (a : Nat → Nat) (cI cL : ClassId) (nl : Int32) (np : (Nat → Int32)) (nt : Int32) (nr : (Nat → Int32)) (nh : Int32) (ns : (Nat → Int32)) (nk : (Nat → Int32)) (ne : Int32) (nw : Int32) (na : (Nat → Int32)) (nf : (Nat → Int32)) (nc : Int32) (ng : (Nat → Int32)) (nx : Int64) (p0 : Int32) (res : Int32) (hf : pf_X7_namesOf nh nk p0 = some res) : jMi l yX7_namesOf wsX7_namesOf ({ frames := 2, cells := 0, slots := 0, locals := 45 }) D [(cI, .int), (cL, .long)] [.ref (a 0), .int p0] (wM a cI cL nl np nt nr nh ns nk ne nw na nf nc ng nx) res (wM a cI cL nl np nt nr nh ns nk ne nw na nf nc ng nx) := by
  intro sz
  refine Met.ofW (cc := cX7_namesOf) (maxL := 6) (ret := (some .int)) (by decide) rfl ?_
  intro p e s m args below meth c s₁ B hml hv
  obtain ⟨rfl, hsz, hP, hK, hD0, hN⟩ := hv
  have hx := B.exec
  have hb := B.bytes
  have hr := B.returns
  have hts := atoms_spec (ws := wsX7_namesOf) B.pre
  have hown : s.vm.findClass RX7 = some m.cls := findClass_of_methodNamed B.named
  have hlocks := B.notSynchronized
  subst hsz
  have hD := hD0.self (sz := s.heap.size)
  generalize hAe : va_A (wM a cI cL nl np nt nr nh ns nk ne nw na nf nc ng nx) s.heap.size = A at hD ⊢
  have hA : ∀ q : Nat, s.heap.size ≤ q → A q := fun q h => by rw [← hAe]; exact Or.inr h
  have hS : va_S A s.heap s.heap [] := va_S.rf
  have hl := lv_entry ([.ref (a 0), .int p0]) (n := 6) (Nat.le_of_ble_eq_true rfl)
  rw [lg_entry_eq]
  generalize (lg_sl ([.ref (a 0), .int p0]) ++ List.replicate (6 - (lg_sl ([.ref (a 0), .int p0])).length) Slot.unset).toArray = ls at hl ⊢
  have hl : lv_has ls 6 [(0, .ref (a 0)), (1, .int p0)] := hl
  have hf : pf_X7_namesOf nh nk p0 = some res := hf
  refine lv_iconst (v := 1) hx hb dX7_namesOf_0 (by decide) ?_
  refine lv_iload_n hx hb dX7_namesOf_1 rfl (lv_at hl 1 rfl) ?_
  refine lv_ishl hx hb dX7_namesOf_2 ?_
  refine lv_istore_n (lv' := [(2, .int ((1 : Int32) <<< (p0 &&& 31))), (0, .ref (a 0)), (1, .int p0)]) hx hb dX7_namesOf_3 rfl hl (by decide) rfl (fun ls hl => ?_)
  refine lv_iconst (v := 0) hx hb dX7_namesOf_4 (by decide) ?_
  refine lv_istore_n (lv' := [(3, .int (0 : Int32)), (2, .int ((1 : Int32) <<< (p0 &&& 31))), (0, .ref (a 0)), (1, .int p0)]) hx hb dX7_namesOf_5 rfl hl (by decide) rfl (fun ls hl => ?_)
  obtain ⟨k2, hf, hkk2⟩ := jx_bs hf
  have hXk2 : ∀ (H : Heap) (locs : List Loc) (ls : Array Slot), va_P D vwCl (wM a cI cL nl np nt nr nh ns nk ne nw na nf nc ng nx) H → va_D A (wM a cI cL nl np nt nr nh ns nk ne nw na nf nc ng nx) → va_S A s.heap H locs → lv_has ls 6 [(1, .int p0), (2, .int k2)] → jx_Wi p l e wsX7_namesOf ({ frames := 2, cells := 0, slots := 0, locals := 45 }) s m [.ref (a 0), .int p0] below meth c D [(cI, .int), (cL, .long)] res (wM a cI cL nl np nt nr nh ns nk ne nw na nf nc ng nx) A H locs (F0 m 80 ls []) := by
    clear hf hP hD hS hl
    intro H locs ls hP hD hS hl
    have hf := hkk2
    refine lv_iload_n hx hb dX7_namesOf_80 rfl (lv_at hl 1 rfl) ?_
    refine lv_iconst (v := 1) hx hb dX7_namesOf_81 (by decide) ?_
    refine lv_iload_n hx hb dX7_namesOf_82 rfl (lv_at hl 0 rfl) ?_
    refine lv_ishl hx hb dX7_namesOf_83 ?_
    refine lv_iconst (v := -1) hx hb dX7_namesOf_84 (by decide) ?_
    refine lv_ixor hx hb dX7_namesOf_85 ?_
    refine lv_iand hx hb dX7_namesOf_86 ?_
    have he := jx_eq hf
    subst he
    exact jx_reti hx hb hr hlocks rfl hK hP hD hS dX7_namesOf_87
  have hLk2 : ∀ (n : Nat) (s1 : (Int32 × Int32)) (H : Heap) (locs : List Loc) (ls : Array Slot), jx_iter (pf_X7_namesOf_s1 nh nk) n s1 = some k2 → va_P D vwCl (wM a cI cL nl np nt nr nh ns nk ne nw na nf nc ng nx) H → va_D A (wM a cI cL nl np nt nr nh ns nk ne nw na nf nc ng nx) → va_S A s.heap H locs → lv_has ls 6 [(0, .ref (a 0)), (1, .int p0), (2, .int s1.1), (3, .int s1.2)] → jx_Wi p l e wsX7_namesOf ({ frames := 2, cells := 0, slots := 0, locals := 45 }) s m [.ref (a 0), .int p0] below meth c D [(cI, .int), (cL, .long)] res (wM a cI cL nl np nt nr nh ns nk ne nw na nf nc ng nx) A H locs (F0 m 6 ls []) := by
    clear hf hP hD hS hl
    intro n
    induction n with
    | zero => intro s1 _ _ _ hf; cases hf
    | succ n ihk2 =>
      intro s1 H locs ls hf hP hD hS hl
      obtain ⟨q3, hf, hgk2⟩ := jx_bs hf
      refine lv_iload_n hx hb dX7_namesOf_6 rfl (lv_at hl 3 rfl) ?_
      refine lv_iload_n hx hb dX7_namesOf_7 rfl (lv_at hl 2 rfl) ?_
      refine lv_icmp_eq (tgt := 80) hx hb dX7_namesOf_8 (by decide) (fun hq => ?_) (fun hq => ?_)
      · replace hf := jx_pos hq hf
        have he := jx_eq hf
        subst he
        have he : _ = k2 := jx_eq hgk2
        subst he
        exact hXk2 _ _ _ hP hD hS (lv_sub hl [1, 2] rfl)
      · replace hf := jx_neg hq hf
        refine lv_iload_n hx hb dX7_namesOf_11 rfl (lv_at hl 2 rfl) ?_
        refine lv_istore_n (lv' := [(3, .int s1.1), (0, .ref (a 0)), (1, .int p0), (2, .int s1.1)]) hx hb dX7_namesOf_12 rfl hl (by decide) rfl (fun ls hl => ?_)
        refine lv_iconst (v := 0) hx hb dX7_namesOf_13 (by decide) ?_
        refine lv_istore (lv' := [(4, .int (0 : Int32)), (3, .int s1.1), (0, .ref (a 0)), (1, .int p0), (2, .int s1.1)]) hx hb dX7_namesOf_14 hl (by decide) rfl (fun ls hl => ?_)
        obtain ⟨k5, hf, hkk5⟩ := jx_bs hf
        have hXk5 : ∀ (H : Heap) (locs : List Loc) (ls : Array Slot), va_P D vwCl (wM a cI cL nl np nt nr nh ns nk ne nw na nf nc ng nx) H → va_D A (wM a cI cL nl np nt nr nh ns nk ne nw na nf nc ng nx) → va_S A s.heap H locs → lv_has ls 6 [(0, .ref (a 0)), (1, .int p0), (2, .int k5), (3, .int s1.1)] → jx_Wi p l e wsX7_namesOf ({ frames := 2, cells := 0, slots := 0, locals := 45 }) s m [.ref (a 0), .int p0] below meth c D [(cI, .int), (cL, .long)] res (wM a cI cL nl np nt nr nh ns nk ne nw na nf nc ng nx) A H locs (F0 m 77 ls []) := by
          clear hf hP hD hS hl
          intro H locs ls hP hD hS hl
          have hf := hkk5
          refine lv_goto (tgt := 6) hx hb dX7_namesOf_77 (by decide) ?_
          have he := jx_eq hf
          subst he
          exact ihk2 (k5, s1.1) _ _ _ hgk2 hP hD hS (lv_sub hl [0, 1, 2, 3] rfl)
        have hLk5 : ∀ (n : Nat) (s4 : (Int32 × Int32)) (H : Heap) (locs : List Loc) (ls : Array Slot), jx_iter (pf_X7_namesOf_s2 nh nk s1) n s4 = some k5 → va_P D vwCl (wM a cI cL nl np nt nr nh ns nk ne nw na nf nc ng nx) H → va_D A (wM a cI cL nl np nt nr nh ns nk ne nw na nf nc ng nx) → va_S A s.heap H locs → lv_has ls 6 [(0, .ref (a 0)), (1, .int p0), (2, .int s4.1), (3, .int s1.1), (4, .int s4.2)] → jx_Wi p l e wsX7_namesOf ({ frames := 2, cells := 0, slots := 0, locals := 45 }) s m [.ref (a 0), .int p0] below meth c D [(cI, .int), (cL, .long)] res (wM a cI cL nl np nt nr nh ns nk ne nw na nf nc ng nx) A H locs (F0 m 16 ls []) := by
          clear hf hP hD hS hl
          intro n
          induction n with
          | zero => intro s4 _ _ _ hf; cases hf
          | succ n ihk5 =>
            intro s4 H locs ls hf hP hD hS hl
            obtain ⟨q6, hf, hgk5⟩ := jx_bs hf
            refine lv_iload hx hb dX7_namesOf_16 (lv_at hl 4 rfl) ?_
            refine lv_bipush (v := 64) hx hb dX7_namesOf_18 (by decide) ?_
            refine lv_icmp_ge (tgt := 77) hx hb dX7_namesOf_20 (by decide) (fun hq => ?_) (fun hq => ?_)
            · replace hf := jx_pos hq hf
              have he := jx_eq hf
              subst he
              have he : _ = k5 := jx_eq hgk5
              subst he
              exact hXk5 _ _ _ hP hD hS (lv_sub hl [0, 1, 2, 3] rfl)
            · replace hf := jx_neg hq hf
              refine lv_aload_n hx hb dX7_namesOf_23 rfl (lv_at hl 0 rfl) ?_
              refine lv_iload hx hb dX7_namesOf_24 (lv_at hl 4 rfl) ?_
              refine lv_bipush (v := 8) hx hb dX7_namesOf_26 (by decide) ?_
              refine lv_idiv hx hb dX7_namesOf_28 (by decide) ?_
              refine lv_iload hx hb dX7_namesOf_29 (lv_at hl 4 rfl) ?_
              refine lv_bipush (v := 8) hx hb dX7_namesOf_31 (by decide) ?_
              refine lv_irem hx hb dX7_namesOf_33 (by decide) ?_
              refine lv_iconst (v := 2) hx hb dX7_namesOf_34 (by decide) ?_
              obtain ⟨r7, hc, hf⟩ := jx_bs hf
              refine jx_ki (wr := []) (ws2 := (wM a cI cL nl np nt nr nh ns nk ne nw na nf nc ng nx)) (jx_runV (As := [.int (s4.2 / (8 : Int32)), .int (s4.2 - s4.2 / (8 : Int32) * (8 : Int32)), .int (2 : Int32)]) (rest := []) ⟨hx, hb, hml, hown, hts⟩ (c_X7_isLet l D a cI cL nl np nt nr nh ns nk ne nw na nf nc ng nx (s4.2 / (8 : Int32)) (s4.2 - s4.2 / (8 : Int32) * (8 : Int32)) (2 : Int32) r7 hc _) (cwV 3 hts gX7_namesOf_X7_isLet rfl rfl rfl (by decide +kernel) ⟨Nat.le_of_ble_eq_true rfl, Nat.le_of_ble_eq_true rfl⟩) hK hN hP hD [0, 1, 2, 3, 4, 5, 6, 7] rfl (by decide) 0 6 rfl rfl rfl hl.1 rfl (Nat.le_of_ble_eq_true rfl) dX7_namesOf_35 ⟨Nat.le_of_ble_eq_true rfl, Nat.le_of_ble_eq_true rfl⟩) hP hD hS hA [0, 1, 2, 3, 4, 5, 6, 7] [] [0, 1, 2, 3, 4, 5, 6, 7] rfl rfl (by decide) (by decide) rfl (by decide) (fun H locs hP hD hS => ?_)
              clear hc
              refine lv_istore (lv' := [(5, .int r7), (0, .ref (a 0)), (1, .int p0), (2, .int s4.1), (3, .int s1.1), (4, .int s4.2)]) hx hb dX7_namesOf_38 hl (by decide) rfl (fun ls hl => ?_)
              refine lv_iload_n hx hb dX7_namesOf_40 rfl (lv_at hl 3 rfl) ?_
              refine lv_iload hx hb dX7_namesOf_41 (lv_at hl 0 rfl) ?_
              obtain ⟨j8, hf, hkj8⟩ := jx_bs hf
              have hJj8 : ∀ (H : Heap) (locs : List Loc) (ls : Array Slot), va_P D vwCl (wM a cI cL nl np nt nr nh ns nk ne nw na nf nc ng nx) H → va_D A (wM a cI cL nl np nt nr nh ns nk ne nw na nf nc ng nx) → va_S A s.heap H locs → lv_has ls 6 [(0, .ref (a 0)), (1, .int p0), (3, .int s1.1), (4, .int s4.2)] → jx_Wi p l e wsX7_namesOf ({ frames := 2, cells := 0, slots := 0, locals := 45 }) s m [.ref (a 0), .int p0] below meth c D [(cI, .int), (cL, .long)] res (wM a cI cL nl np nt nr nh ns nk ne nw na nf nc ng nx) A H locs (F0 m 69 ls [.int j8, .int s4.1]) := by
                clear hf hP hD hS hl
                intro H locs ls hP hD hS hl
                have hf := hkj8
                refine lv_ior hx hb dX7_namesOf_69 ?_
                refine lv_istore_n (lv' := [(2, .int (s4.1 ||| j8)), (0, .ref (a 0)), (1, .int p0), (3, .int s1.1), (4, .int s4.2)]) hx hb dX7_namesOf_70 rfl hl (by decide) rfl (fun ls hl => ?_)
                refine lv_iinc (v := (s4.2 + (1 : Int32))) (lv' := [(4, .int (s4.2 + (1 : Int32))), (2, .int (s4.1 ||| j8)), (0, .ref (a 0)), (1, .int p0), (3, .int s1.1)]) hx hb dX7_namesOf_71 hl (k := 4) rfl rfl (by decide) rfl (fun ls hl => ?_)
                refine lv_goto (tgt := 16) hx hb dX7_namesOf_74 (by decide) ?_
                have he := jx_eq hf
                subst he
                exact ihk5 ((s4.1 ||| j8), (s4.2 + (1 : Int32))) _ _ _ hgk5 hP hD hS (lv_sub hl [2, 3, 1, 4, 0] rfl)
              refine lv_if_eq (tgt := 68) hx hb dX7_namesOf_43 (by decide) (fun hq => ?_) (fun hq => ?_)
              · replace hf := jx_pos hq hf
                refine lv_iconst (v := 0) hx hb dX7_namesOf_68 (by decide) ?_
                have he := jx_eq hf
                subst he
                exact hJj8 _ _ _ hP hD hS (lv_sub hl [1, 2, 4, 5] rfl)
              · replace hf := jx_neg hq hf
                refine lv_iload_n hx hb dX7_namesOf_46 rfl (lv_at hl 4 rfl) ?_
                refine lv_iload hx hb dX7_namesOf_47 (lv_at hl 5 rfl) ?_
                refine lv_bipush (v := 8) hx hb dX7_namesOf_49 (by decide) ?_
                refine lv_idiv hx hb dX7_namesOf_51 (by decide) ?_
                obtain ⟨r9, hc, hf⟩ := jx_bs hf
                refine jx_ki (wr := [((a 0), .inr (6, [.int nl, .ref (a 1), .int nt, .ref (a 2), .int nh, .ref (a 3), .ref (a 4), .int ne, .int nw, .ref (a 5), .ref (a 6), .int nc, .ref (a 7), .long nx])), ((a 1), .inl (cI, 24, .inl np)), ((a 2), .inl (cI, 108, .inl nr)), ((a 3), .inl (cI, 8, .inl ns)), ((a 4), .inl (cI, 64, .inl nk)), ((a 5), .inl (cI, 8, .inl na)), ((a 6), .inl (cI, 8, .inl nf)), ((a 7), .inl (cI, 48, .inl ng))]) (ws2 := (wM a cI cL nl np nt nr nh ns nk ne nw na nf nc ng nx)) (jx_runS (As := [.int s1.1, .int (s4.2 / (8 : Int32))]) (rest := [.int s4.1]) ⟨hx, hb, hml, hown, hts⟩ (c_X7_has l D a cI cL s1.1 (s4.2 / (8 : Int32)) r9 hc _) (va_cwS 2 hts gX7_namesOf_X7_has rfl rfl rfl (by decide +kernel) ⟨Nat.le_of_ble_eq_true rfl, Nat.le_of_ble_eq_true rfl⟩) hK hN hP hD [] rfl (by decide) rfl hl.1 rfl (Nat.le_of_ble_eq_true rfl) dX7_namesOf_52 ⟨Nat.le_of_ble_eq_true rfl, Nat.le_of_ble_eq_true rfl⟩) hP hD hS hA [] [0, 1, 2, 3, 4, 5, 6, 7] [0, 1, 2, 3, 4, 5, 6, 7] rfl rfl (by decide) (by decide) rfl (by decide) (fun H locs hP hD hS => ?_)
                clear hc
                refine lv_if_eq (tgt := 68) hx hb dX7_namesOf_55 (by decide) (fun hq => ?_) (fun hq => ?_)
                · replace hf := jx_pos hq hf
                  refine lv_iconst (v := 0) hx hb dX7_namesOf_68 (by decide) ?_
                  have he := jx_eq hf
                  subst he
                  exact hJj8 _ _ _ hP hD hS (lv_sub hl [1, 2, 4, 5] rfl)
                · replace hf := jx_neg hq hf
                  refine lv_iconst (v := 1) hx hb dX7_namesOf_58 (by decide) ?_
                  refine lv_iload hx hb dX7_namesOf_59 (lv_at hl 5 rfl) ?_
                  refine lv_bipush (v := 8) hx hb dX7_namesOf_61 (by decide) ?_
                  refine lv_irem hx hb dX7_namesOf_63 (by decide) ?_
                  refine lv_ishl hx hb dX7_namesOf_64 ?_
                  refine lv_goto (tgt := 69) hx hb dX7_namesOf_65 (by decide) ?_
                  have he := jx_eq hf
                  subst he
                  exact hJj8 _ _ _ hP hD hS (lv_sub hl [1, 2, 4, 5] rfl)
        exact hLk5 jx_F (s1.1, (0 : Int32)) _ _ _ hf hP hD hS (lv_sub hl [2, 3, 4, 1, 0] rfl)
  exact hLk2 jx_F (((1 : Int32) <<< (p0 &&& 31)), (0 : Int32)) _ _ _ hf hP hD hS (lv_sub hl [2, 3, 1, 0] rfl)
theorem iw_X7_usersOf_X7 : ∀ w ∈ wsX70, w ∈ wsX7_usersOf := by decide +kernel
set_option maxHeartbeats 4000000 in
set_option maxRecDepth 100000 in
theorem c_X7_usersOf (l : Launch) (D : va_G) (a : Nat → Nat) (cI cL : ClassId) (nl : Int32) (np : (Nat → Int32)) (nt : Int32) (nr : (Nat → Int32)) (nh : Int32) (ns : (Nat → Int32)) (nk : (Nat → Int32)) (ne : Int32) (nw : Int32) (na : (Nat → Int32)) (nf : (Nat → Int32)) (nc : Int32) (ng : (Nat → Int32)) (nx : Int64) (p0 : Int32) (res : Int32) (hf : pf_X7_usersOf nh nk p0 = some res) : jMi l yX7_usersOf wsX7_usersOf ({ frames := 1, cells := 0, slots := 0, locals := 21 }) D [(cI, .int), (cL, .long)] [.ref (a 0), .int p0] (wM a cI cL nl np nt nr nh ns nk ne nw na nf nc ng nx) res (wM a cI cL nl np nt nr nh ns nk ne nw na nf nc ng nx) := by
  intro sz
  refine Met.ofW (cc := cX7_usersOf) (maxL := 4) (ret := (some .int)) (by decide) rfl ?_
  intro p e s m args below meth c s₁ B hml hv
  obtain ⟨rfl, hsz, hP, hK, hD0, hN⟩ := hv
  have hx := B.exec
  have hb := B.bytes
  have hr := B.returns
  have hts := atoms_spec (ws := wsX7_usersOf) B.pre
  have hown : s.vm.findClass RX7 = some m.cls := findClass_of_methodNamed B.named
  have hlocks := B.notSynchronized
  subst hsz
  have hD := hD0.self (sz := s.heap.size)
  generalize hAe : va_A (wM a cI cL nl np nt nr nh ns nk ne nw na nf nc ng nx) s.heap.size = A at hD ⊢
  have hA : ∀ q : Nat, s.heap.size ≤ q → A q := fun q h => by rw [← hAe]; exact Or.inr h
  have hS : va_S A s.heap s.heap [] := va_S.rf
  have hl := lv_entry ([.ref (a 0), .int p0]) (n := 4) (Nat.le_of_ble_eq_true rfl)
  rw [lg_entry_eq]
  generalize (lg_sl ([.ref (a 0), .int p0]) ++ List.replicate (4 - (lg_sl ([.ref (a 0), .int p0])).length) Slot.unset).toArray = ls at hl ⊢
  have hl : lv_has ls 4 [(0, .ref (a 0)), (1, .int p0)] := hl
  have hf : pf_X7_usersOf nh nk p0 = some res := hf
  refine lv_iconst (v := 0) hx hb dX7_usersOf_0 (by decide) ?_
  refine lv_istore_n (lv' := [(2, .int (0 : Int32)), (0, .ref (a 0)), (1, .int p0)]) hx hb dX7_usersOf_1 rfl hl (by decide) rfl (fun ls hl => ?_)
  refine lv_iconst (v := 0) hx hb dX7_usersOf_2 (by decide) ?_
  refine lv_istore_n (lv' := [(3, .int (0 : Int32)), (2, .int (0 : Int32)), (0, .ref (a 0)), (1, .int p0)]) hx hb dX7_usersOf_3 rfl hl (by decide) rfl (fun ls hl => ?_)
  obtain ⟨k2, hf, hkk2⟩ := jx_bs hf
  have hXk2 : ∀ (H : Heap) (locs : List Loc) (ls : Array Slot), va_P D vwCl (wM a cI cL nl np nt nr nh ns nk ne nw na nf nc ng nx) H → va_D A (wM a cI cL nl np nt nr nh ns nk ne nw na nf nc ng nx) → va_S A s.heap H locs → lv_has ls 4 [(2, .int k2)] → jx_Wi p l e wsX7_usersOf ({ frames := 1, cells := 0, slots := 0, locals := 21 }) s m [.ref (a 0), .int p0] below meth c D [(cI, .int), (cL, .long)] res (wM a cI cL nl np nt nr nh ns nk ne nw na nf nc ng nx) A H locs (F0 m 50 ls []) := by
    clear hf hP hD hS hl
    intro H locs ls hP hD hS hl
    have hf := hkk2
    refine lv_iload_n hx hb dX7_usersOf_50 rfl (lv_at hl 0 rfl) ?_
    have he := jx_eq hf
    subst he
    exact jx_reti hx hb hr hlocks rfl hK hP hD hS dX7_usersOf_51
  have hLk2 : ∀ (n : Nat) (s1 : (Int32 × Int32)) (H : Heap) (locs : List Loc) (ls : Array Slot), jx_iter (pf_X7_usersOf_s1 nh nk p0) n s1 = some k2 → va_P D vwCl (wM a cI cL nl np nt nr nh ns nk ne nw na nf nc ng nx) H → va_D A (wM a cI cL nl np nt nr nh ns nk ne nw na nf nc ng nx) → va_S A s.heap H locs → lv_has ls 4 [(0, .ref (a 0)), (1, .int p0), (2, .int s1.1), (3, .int s1.2)] → jx_Wi p l e wsX7_usersOf ({ frames := 1, cells := 0, slots := 0, locals := 21 }) s m [.ref (a 0), .int p0] below meth c D [(cI, .int), (cL, .long)] res (wM a cI cL nl np nt nr nh ns nk ne nw na nf nc ng nx) A H locs (F0 m 4 ls []) := by
    clear hf hP hD hS hl
    intro n
    induction n with
    | zero => intro s1 _ _ _ hf; cases hf
    | succ n ihk2 =>
      intro s1 H locs ls hf hP hD hS hl
      obtain ⟨q3, hf, hgk2⟩ := jx_bs hf
      refine lv_iload_n hx hb dX7_usersOf_4 rfl (lv_at hl 3 rfl) ?_
      refine lv_bipush (v := 8) hx hb dX7_usersOf_5 (by decide) ?_
      refine lv_icmp_ge (tgt := 50) hx hb dX7_usersOf_7 (by decide) (fun hq => ?_) (fun hq => ?_)
      · replace hf := jx_pos hq hf
        have he := jx_eq hf
        subst he
        have he : _ = k2 := jx_eq hgk2
        subst he
        exact hXk2 _ _ _ hP hD hS (lv_sub hl [2] rfl)
      · replace hf := jx_neg hq hf
        refine lv_iload_n hx hb dX7_usersOf_10 rfl (lv_at hl 2 rfl) ?_
        refine lv_aload_n hx hb dX7_usersOf_11 rfl (lv_at hl 0 rfl) ?_
        refine va_get (D := D) (ci := 6) (v := .int nh) (C := RX7) (T := TX7) (N := 14) hx hb hts iw_X7_usersOf_X7 hown hK hP 0 rfl rfl 4 (by decide) (hts (.fieldLink RX7 65 "PassedDutiesModel" "there" "I") (by decide +kernel)) (fun _ h9 => h9) rfl dX7_usersOf_12 ?_
        refine lv_iload_n hx hb dX7_usersOf_15 rfl (lv_at hl 3 rfl) ?_
        obtain ⟨r4, hc, hf⟩ := jx_bs hf
        refine jx_ki (wr := [((a 0), .inr (6, [.int nl, .ref (a 1), .int nt, .ref (a 2), .int nh, .ref (a 3), .ref (a 4), .int ne, .int nw, .ref (a 5), .ref (a 6), .int nc, .ref (a 7), .long nx])), ((a 1), .inl (cI, 24, .inl np)), ((a 2), .inl (cI, 108, .inl nr)), ((a 3), .inl (cI, 8, .inl ns)), ((a 4), .inl (cI, 64, .inl nk)), ((a 5), .inl (cI, 8, .inl na)), ((a 6), .inl (cI, 8, .inl nf)), ((a 7), .inl (cI, 48, .inl ng))]) (ws2 := (wM a cI cL nl np nt nr nh ns nk ne nw na nf nc ng nx)) (jx_runS (As := [.int nh, .int s1.2]) (rest := [.int s1.1]) ⟨hx, hb, hml, hown, hts⟩ (c_X7_has l D a cI cL nh s1.2 r4 hc _) (va_cwS 2 hts gX7_usersOf_X7_has rfl rfl rfl (by decide +kernel) ⟨Nat.le_of_ble_eq_true rfl, Nat.le_of_ble_eq_true rfl⟩) hK hN hP hD [] rfl (by decide) rfl hl.1 rfl (Nat.le_of_ble_eq_true rfl) dX7_usersOf_16 ⟨Nat.le_of_ble_eq_true rfl, Nat.le_of_ble_eq_true rfl⟩) hP hD hS hA [] [0, 1, 2, 3, 4, 5, 6, 7] [0, 1, 2, 3, 4, 5, 6, 7] rfl rfl (by decide) (by decide) rfl (by decide) (fun H locs hP hD hS => ?_)
        clear hc
        obtain ⟨j5, hf, hkj5⟩ := jx_bs hf
        have hJj5 : ∀ (H : Heap) (locs : List Loc) (ls : Array Slot), va_P D vwCl (wM a cI cL nl np nt nr nh ns nk ne nw na nf nc ng nx) H → va_D A (wM a cI cL nl np nt nr nh ns nk ne nw na nf nc ng nx) → va_S A s.heap H locs → lv_has ls 4 [(0, .ref (a 0)), (1, .int p0), (3, .int s1.2)] → jx_Wi p l e wsX7_usersOf ({ frames := 1, cells := 0, slots := 0, locals := 21 }) s m [.ref (a 0), .int p0] below meth c D [(cI, .int), (cL, .long)] res (wM a cI cL nl np nt nr nh ns nk ne nw na nf nc ng nx) A H locs (F0 m 42 ls [.int j5, .int s1.1]) := by
          clear hf hP hD hS hl
          intro H locs ls hP hD hS hl
          have hf := hkj5
          refine lv_iadd hx hb dX7_usersOf_42 ?_
          refine lv_istore_n (lv' := [(2, .int (s1.1 + j5)), (0, .ref (a 0)), (1, .int p0), (3, .int s1.2)]) hx hb dX7_usersOf_43 rfl hl (by decide) rfl (fun ls hl => ?_)
          refine lv_iinc (v := (s1.2 + (1 : Int32))) (lv' := [(3, .int (s1.2 + (1 : Int32))), (2, .int (s1.1 + j5)), (0, .ref (a 0)), (1, .int p0)]) hx hb dX7_usersOf_44 hl (k := 3) rfl rfl (by decide) rfl (fun ls hl => ?_)
          refine lv_goto (tgt := 4) hx hb dX7_usersOf_47 (by decide) ?_
          have he := jx_eq hf
          subst he
          exact ihk2 ((s1.1 + j5), (s1.2 + (1 : Int32))) _ _ _ hgk2 hP hD hS (lv_sub hl [2, 3, 1, 0] rfl)
        refine lv_if_eq (tgt := 41) hx hb dX7_usersOf_19 (by decide) (fun hq => ?_) (fun hq => ?_)
        · replace hf := jx_pos hq hf
          refine lv_iconst (v := 0) hx hb dX7_usersOf_41 (by decide) ?_
          have he := jx_eq hf
          subst he
          exact hJj5 _ _ _ hP hD hS (lv_sub hl [0, 1, 3] rfl)
        · replace hf := jx_neg hq hf
          refine lv_aload_n hx hb dX7_usersOf_22 rfl (lv_at hl 0 rfl) ?_
          refine va_get (D := D) (ci := 6) (v := .ref (a 4)) (C := RX7) (T := TX7) (N := 14) hx hb hts iw_X7_usersOf_X7 hown hK hP 0 rfl rfl 6 (by decide) (hts (.fieldLink RX7 19 "PassedDutiesModel" "kinds" "[I") (by decide +kernel)) (fun _ h9 => h9) rfl dX7_usersOf_23 ?_
          refine lv_bipush (v := 8) hx hb dX7_usersOf_26 (by decide) ?_
          refine lv_iload_n hx hb dX7_usersOf_28 rfl (lv_at hl 3 rfl) ?_
          refine lv_imul hx hb dX7_usersOf_29 ?_
          refine lv_iload_n hx hb dX7_usersOf_30 rfl (lv_at hl 1 rfl) ?_
          refine lv_iadd hx hb dX7_usersOf_31 ?_
          obtain ⟨hi, hf⟩ := jx_gs hf
          refine va_iald hx hb hK hP 4 0 rfl rfl (jx_ip hi) dX7_usersOf_32 ?_
          clear hi
          refine lv_iconst (v := -1) hx hb dX7_usersOf_33 (by decide) ?_
          refine lv_icmp_eq (tgt := 41) hx hb dX7_usersOf_34 (by decide) (fun hq => ?_) (fun hq => ?_)
          · replace hf := jx_pos hq hf
            refine lv_iconst (v := 0) hx hb dX7_usersOf_41 (by decide) ?_
            have he := jx_eq hf
            subst he
            exact hJj5 _ _ _ hP hD hS (lv_sub hl [0, 1, 3] rfl)
          · replace hf := jx_neg hq hf
            refine lv_iconst (v := 1) hx hb dX7_usersOf_37 (by decide) ?_
            refine lv_goto (tgt := 42) hx hb dX7_usersOf_38 (by decide) ?_
            have he := jx_eq hf
            subst he
            exact hJj5 _ _ _ hP hD hS (lv_sub hl [0, 1, 3] rfl)
  exact hLk2 jx_F ((0 : Int32), (0 : Int32)) _ _ _ hf hP hD hS (lv_sub hl [2, 3, 1, 0] rfl)
theorem iw_X7_partNow_X7 : ∀ w ∈ wsX70, w ∈ wsX7_partNow := by decide +kernel
set_option maxHeartbeats 4000000 in
set_option maxRecDepth 100000 in
theorem c_X7_partNow (l : Launch) (D : va_G) (a : Nat → Nat) (cI cL : ClassId) (nl : Int32) (np : (Nat → Int32)) (nt : Int32) (nr : (Nat → Int32)) (nh : Int32) (ns : (Nat → Int32)) (nk : (Nat → Int32)) (ne : Int32) (nw : Int32) (na : (Nat → Int32)) (nf : (Nat → Int32)) (nc : Int32) (ng : (Nat → Int32)) (nx : Int64) (p0 : Int32) (p1 : Int32) (res : Int32) (hf : pf_X7_partNow nr nh ns nk p0 p1 = some res) : jMi l yX7_partNow wsX7_partNow ({ frames := 4, cells := 0, slots := 0, locals := 98 }) D [(cI, .int), (cL, .long)] [.ref (a 0), .int p0, .int p1] (wM a cI cL nl np nt nr nh ns nk ne nw na nf nc ng nx) res (wM a cI cL nl np nt nr nh ns nk ne nw na nf nc ng nx) := by
  intro sz
  refine Met.ofW (cc := cX7_partNow) (maxL := 3) (ret := (some .int)) (by decide) rfl ?_
  intro p e s m args below meth c s₁ B hml hv
  obtain ⟨rfl, hsz, hP, hK, hD0, hN⟩ := hv
  have hx := B.exec
  have hb := B.bytes
  have hr := B.returns
  have hts := atoms_spec (ws := wsX7_partNow) B.pre
  have hown : s.vm.findClass RX7 = some m.cls := findClass_of_methodNamed B.named
  have hlocks := B.notSynchronized
  subst hsz
  have hD := hD0.self (sz := s.heap.size)
  generalize hAe : va_A (wM a cI cL nl np nt nr nh ns nk ne nw na nf nc ng nx) s.heap.size = A at hD ⊢
  have hA : ∀ q : Nat, s.heap.size ≤ q → A q := fun q h => by rw [← hAe]; exact Or.inr h
  have hS : va_S A s.heap s.heap [] := va_S.rf
  have hl := lv_entry ([.ref (a 0), .int p0, .int p1]) (n := 3) (Nat.le_of_ble_eq_true rfl)
  rw [lg_entry_eq]
  generalize (lg_sl ([.ref (a 0), .int p0, .int p1]) ++ List.replicate (3 - (lg_sl ([.ref (a 0), .int p0, .int p1])).length) Slot.unset).toArray = ls at hl ⊢
  have hl : lv_has ls 3 [(0, .ref (a 0)), (1, .int p0), (2, .int p1)] := hl
  have hf : pf_X7_partNow nr nh ns nk p0 p1 = some res := hf
  refine lv_iload_n hx hb dX7_partNow_0 rfl (lv_at hl 2 rfl) ?_
  by_cases hq0 : p1 = (0 : Int32)
  · replace hf := jx_pos hq0 hf
    refine lv_tableIn (off := 43) (tgt := 44) hx hb dX7_partNow_1 (by rw [hq0]; decide) (by rw [hq0]; decide) (by rw [hq0]; decide) (by decide) ?_
    refine lv_aload_n hx hb dX7_partNow_44 rfl (lv_at hl 0 rfl) ?_
    refine va_get (D := D) (ci := 6) (v := .ref (a 3)) (C := RX7) (T := TX7) (N := 14) hx hb hts iw_X7_partNow_X7 hown hK hP 0 rfl rfl 5 (by decide) (hts (.fieldLink RX7 16 "PassedDutiesModel" "termsOf" "[I") (by decide +kernel)) (fun _ h9 => h9) rfl dX7_partNow_45 ?_
    refine lv_iload_n hx hb dX7_partNow_48 rfl (lv_at hl 1 rfl) ?_
    obtain ⟨hi, hf⟩ := jx_gs hf
    refine va_iald hx hb hK hP 3 0 rfl rfl (jx_ip hi) dX7_partNow_49 ?_
    clear hi
    have he := jx_eq hf
    subst he
    exact jx_reti hx hb hr hlocks rfl hK hP hD hS dX7_partNow_50
  replace hf := jx_neg hq0 hf
  by_cases hq4 : p1 = (4 : Int32)
  · replace hf := jx_pos hq4 hf
    refine lv_tableIn (off := 50) (tgt := 51) hx hb dX7_partNow_1 (by rw [hq4]; decide) (by rw [hq4]; decide) (by rw [hq4]; decide) (by decide) ?_
    refine lv_aload_n hx hb dX7_partNow_51 rfl (lv_at hl 0 rfl) ?_
    refine lv_iload_n hx hb dX7_partNow_52 rfl (lv_at hl 1 rfl) ?_
    obtain ⟨r1, hc, hf⟩ := jx_bs hf
    refine jx_ki (wr := []) (ws2 := (wM a cI cL nl np nt nr nh ns nk ne nw na nf nc ng nx)) (jx_runV (As := [.int p0]) (rest := []) ⟨hx, hb, hml, hown, hts⟩ (c_X7_namesOf l D a cI cL nl np nt nr nh ns nk ne nw na nf nc ng nx p0 r1 hc _) (cwV 1 hts gX7_partNow_X7_namesOf rfl rfl rfl (by decide +kernel) ⟨Nat.le_of_ble_eq_true rfl, Nat.le_of_ble_eq_true rfl⟩) hK hN hP hD [0, 1, 2, 3, 4, 5, 6, 7] rfl (by decide) 0 6 rfl rfl rfl hl.1 rfl (Nat.le_of_ble_eq_true rfl) dX7_partNow_53 ⟨Nat.le_of_ble_eq_true rfl, Nat.le_of_ble_eq_true rfl⟩) hP hD hS hA [0, 1, 2, 3, 4, 5, 6, 7] [] [0, 1, 2, 3, 4, 5, 6, 7] rfl rfl (by decide) (by decide) rfl (by decide) (fun H locs hP hD hS => ?_)
    clear hc
    have he := jx_eq hf
    subst he
    exact jx_reti hx hb hr hlocks rfl hK hP hD hS dX7_partNow_56
  replace hf := jx_neg hq4 hf
  by_cases hq5 : p1 = (5 : Int32)
  · replace hf := jx_pos hq5 hf
    refine lv_tableIn (off := 56) (tgt := 57) hx hb dX7_partNow_1 (by rw [hq5]; decide) (by rw [hq5]; decide) (by rw [hq5]; decide) (by decide) ?_
    refine lv_aload_n hx hb dX7_partNow_57 rfl (lv_at hl 0 rfl) ?_
    refine lv_iload_n hx hb dX7_partNow_58 rfl (lv_at hl 1 rfl) ?_
    obtain ⟨r2, hc, hf⟩ := jx_bs hf
    refine jx_ki (wr := []) (ws2 := (wM a cI cL nl np nt nr nh ns nk ne nw na nf nc ng nx)) (jx_runV (As := [.int p0]) (rest := []) ⟨hx, hb, hml, hown, hts⟩ (c_X7_usesOf l D a cI cL nl np nt nr nh ns nk ne nw na nf nc ng nx p0 r2 hc _) (cwV 1 hts gX7_partNow_X7_usesOf rfl rfl rfl (by decide +kernel) ⟨Nat.le_of_ble_eq_true rfl, Nat.le_of_ble_eq_true rfl⟩) hK hN hP hD [0, 1, 2, 3, 4, 5, 6, 7] rfl (by decide) 0 6 rfl rfl rfl hl.1 rfl (Nat.le_of_ble_eq_true rfl) dX7_partNow_59 ⟨Nat.le_of_ble_eq_true rfl, Nat.le_of_ble_eq_true rfl⟩) hP hD hS hA [0, 1, 2, 3, 4, 5, 6, 7] [] [0, 1, 2, 3, 4, 5, 6, 7] rfl rfl (by decide) (by decide) rfl (by decide) (fun H locs hP hD hS => ?_)
    clear hc
    have he := jx_eq hf
    subst he
    exact jx_reti hx hb hr hlocks rfl hK hP hD hS dX7_partNow_62
  replace hf := jx_neg hq5 hf
  by_cases hq6 : p1 = (6 : Int32)
  · replace hf := jx_pos hq6 hf
    refine lv_tableIn (off := 62) (tgt := 63) hx hb dX7_partNow_1 (by rw [hq6]; decide) (by rw [hq6]; decide) (by rw [hq6]; decide) (by decide) ?_
    refine lv_aload_n hx hb dX7_partNow_63 rfl (lv_at hl 0 rfl) ?_
    refine lv_iload_n hx hb dX7_partNow_64 rfl (lv_at hl 1 rfl) ?_
    obtain ⟨r3, hc, hf⟩ := jx_bs hf
    refine jx_ki (wr := []) (ws2 := (wM a cI cL nl np nt nr nh ns nk ne nw na nf nc ng nx)) (jx_runV (As := [.int p0]) (rest := []) ⟨hx, hb, hml, hown, hts⟩ (c_X7_usersOf l D a cI cL nl np nt nr nh ns nk ne nw na nf nc ng nx p0 r3 hc _) (cwV 1 hts gX7_partNow_X7_usersOf rfl rfl rfl (by decide +kernel) ⟨Nat.le_of_ble_eq_true rfl, Nat.le_of_ble_eq_true rfl⟩) hK hN hP hD [0, 1, 2, 3, 4, 5, 6, 7] rfl (by decide) 0 6 rfl rfl rfl hl.1 rfl (Nat.le_of_ble_eq_true rfl) dX7_partNow_65 ⟨Nat.le_of_ble_eq_true rfl, Nat.le_of_ble_eq_true rfl⟩) hP hD hS hA [0, 1, 2, 3, 4, 5, 6, 7] [] [0, 1, 2, 3, 4, 5, 6, 7] rfl rfl (by decide) (by decide) rfl (by decide) (fun H locs hP hD hS => ?_)
    clear hc
    have he := jx_eq hf
    subst he
    exact jx_reti hx hb hr hlocks rfl hK hP hD hS dX7_partNow_68
  replace hf := jx_neg hq6 hf
  by_cases hq1 : p1 = (1 : Int32)
  · refine lv_tableIn (off := 68) (tgt := 69) hx hb dX7_partNow_1 (by rw [hq1]; decide) (by rw [hq1]; decide) (by rw [hq1]; decide) (by decide) ?_
    refine lv_aload_n hx hb dX7_partNow_69 rfl (lv_at hl 0 rfl) ?_
    refine lv_iload_n hx hb dX7_partNow_70 rfl (lv_at hl 1 rfl) ?_
    refine lv_iload_n hx hb dX7_partNow_71 rfl (lv_at hl 2 rfl) ?_
    obtain ⟨r4, hc, hf⟩ := jx_bs hf
    refine jx_ki (wr := []) (ws2 := (wM a cI cL nl np nt nr nh ns nk ne nw na nf nc ng nx)) (jx_runV (As := [.int p0, .int p1]) (rest := []) ⟨hx, hb, hml, hown, hts⟩ (c_X7_actsOf l D a cI cL nl np nt nr nh ns nk ne nw na nf nc ng nx p0 p1 r4 hc _) (cwV 2 hts gX7_partNow_X7_actsOf rfl rfl rfl (by decide +kernel) ⟨Nat.le_of_ble_eq_true rfl, Nat.le_of_ble_eq_true rfl⟩) hK hN hP hD [0, 1, 2, 3, 4, 5, 6, 7] rfl (by decide) 0 6 rfl rfl rfl hl.1 rfl (Nat.le_of_ble_eq_true rfl) dX7_partNow_72 ⟨Nat.le_of_ble_eq_true rfl, Nat.le_of_ble_eq_true rfl⟩) hP hD hS hA [0, 1, 2, 3, 4, 5, 6, 7] [] [0, 1, 2, 3, 4, 5, 6, 7] rfl rfl (by decide) (by decide) rfl (by decide) (fun H locs hP hD hS => ?_)
    clear hc
    have he := jx_eq hf
    subst he
    exact jx_reti hx hb hr hlocks rfl hK hP hD hS dX7_partNow_75
  by_cases hq2 : p1 = (2 : Int32)
  · refine lv_tableIn (off := 68) (tgt := 69) hx hb dX7_partNow_1 (by rw [hq2]; decide) (by rw [hq2]; decide) (by rw [hq2]; decide) (by decide) ?_
    refine lv_aload_n hx hb dX7_partNow_69 rfl (lv_at hl 0 rfl) ?_
    refine lv_iload_n hx hb dX7_partNow_70 rfl (lv_at hl 1 rfl) ?_
    refine lv_iload_n hx hb dX7_partNow_71 rfl (lv_at hl 2 rfl) ?_
    obtain ⟨r5, hc, hf⟩ := jx_bs hf
    refine jx_ki (wr := []) (ws2 := (wM a cI cL nl np nt nr nh ns nk ne nw na nf nc ng nx)) (jx_runV (As := [.int p0, .int p1]) (rest := []) ⟨hx, hb, hml, hown, hts⟩ (c_X7_actsOf l D a cI cL nl np nt nr nh ns nk ne nw na nf nc ng nx p0 p1 r5 hc _) (cwV 2 hts gX7_partNow_X7_actsOf rfl rfl rfl (by decide +kernel) ⟨Nat.le_of_ble_eq_true rfl, Nat.le_of_ble_eq_true rfl⟩) hK hN hP hD [0, 1, 2, 3, 4, 5, 6, 7] rfl (by decide) 0 6 rfl rfl rfl hl.1 rfl (Nat.le_of_ble_eq_true rfl) dX7_partNow_72 ⟨Nat.le_of_ble_eq_true rfl, Nat.le_of_ble_eq_true rfl⟩) hP hD hS hA [0, 1, 2, 3, 4, 5, 6, 7] [] [0, 1, 2, 3, 4, 5, 6, 7] rfl rfl (by decide) (by decide) rfl (by decide) (fun H locs hP hD hS => ?_)
    clear hc
    have he := jx_eq hf
    subst he
    exact jx_reti hx hb hr hlocks rfl hK hP hD hS dX7_partNow_75
  by_cases hq3 : p1 = (3 : Int32)
  · refine lv_tableIn (off := 68) (tgt := 69) hx hb dX7_partNow_1 (by rw [hq3]; decide) (by rw [hq3]; decide) (by rw [hq3]; decide) (by decide) ?_
    refine lv_aload_n hx hb dX7_partNow_69 rfl (lv_at hl 0 rfl) ?_
    refine lv_iload_n hx hb dX7_partNow_70 rfl (lv_at hl 1 rfl) ?_
    refine lv_iload_n hx hb dX7_partNow_71 rfl (lv_at hl 2 rfl) ?_
    obtain ⟨r6, hc, hf⟩ := jx_bs hf
    refine jx_ki (wr := []) (ws2 := (wM a cI cL nl np nt nr nh ns nk ne nw na nf nc ng nx)) (jx_runV (As := [.int p0, .int p1]) (rest := []) ⟨hx, hb, hml, hown, hts⟩ (c_X7_actsOf l D a cI cL nl np nt nr nh ns nk ne nw na nf nc ng nx p0 p1 r6 hc _) (cwV 2 hts gX7_partNow_X7_actsOf rfl rfl rfl (by decide +kernel) ⟨Nat.le_of_ble_eq_true rfl, Nat.le_of_ble_eq_true rfl⟩) hK hN hP hD [0, 1, 2, 3, 4, 5, 6, 7] rfl (by decide) 0 6 rfl rfl rfl hl.1 rfl (Nat.le_of_ble_eq_true rfl) dX7_partNow_72 ⟨Nat.le_of_ble_eq_true rfl, Nat.le_of_ble_eq_true rfl⟩) hP hD hS hA [0, 1, 2, 3, 4, 5, 6, 7] [] [0, 1, 2, 3, 4, 5, 6, 7] rfl rfl (by decide) (by decide) rfl (by decide) (fun H locs hP hD hS => ?_)
    clear hc
    have he := jx_eq hf
    subst he
    exact jx_reti hx hb hr hlocks rfl hK hP hD hS dX7_partNow_75
  refine lv_tableOut (tgt := 69) hx hb dX7_partNow_1 (jx_sw6 p1 hq0 hq1 hq2 hq3 hq4 hq5 hq6) (by decide) ?_
  refine lv_aload_n hx hb dX7_partNow_69 rfl (lv_at hl 0 rfl) ?_
  refine lv_iload_n hx hb dX7_partNow_70 rfl (lv_at hl 1 rfl) ?_
  refine lv_iload_n hx hb dX7_partNow_71 rfl (lv_at hl 2 rfl) ?_
  obtain ⟨r7, hc, hf⟩ := jx_bs hf
  refine jx_ki (wr := []) (ws2 := (wM a cI cL nl np nt nr nh ns nk ne nw na nf nc ng nx)) (jx_runV (As := [.int p0, .int p1]) (rest := []) ⟨hx, hb, hml, hown, hts⟩ (c_X7_actsOf l D a cI cL nl np nt nr nh ns nk ne nw na nf nc ng nx p0 p1 r7 hc _) (cwV 2 hts gX7_partNow_X7_actsOf rfl rfl rfl (by decide +kernel) ⟨Nat.le_of_ble_eq_true rfl, Nat.le_of_ble_eq_true rfl⟩) hK hN hP hD [0, 1, 2, 3, 4, 5, 6, 7] rfl (by decide) 0 6 rfl rfl rfl hl.1 rfl (Nat.le_of_ble_eq_true rfl) dX7_partNow_72 ⟨Nat.le_of_ble_eq_true rfl, Nat.le_of_ble_eq_true rfl⟩) hP hD hS hA [0, 1, 2, 3, 4, 5, 6, 7] [] [0, 1, 2, 3, 4, 5, 6, 7] rfl rfl (by decide) (by decide) rfl (by decide) (fun H locs hP hD hS => ?_)
  clear hc
  have he := jx_eq hf
  subst he
  exact jx_reti hx hb hr hlocks rfl hK hP hD hS dX7_partNow_75
theorem iw_X7_heldNow_X7 : ∀ w ∈ wsX70, w ∈ wsX7_heldNow := by decide +kernel
set_option maxHeartbeats 4000000 in
set_option maxRecDepth 100000 in
theorem c_X7_heldNow (l : Launch) (D : va_G) (a : Nat → Nat) (cI cL : ClassId) (nl : Int32) (np : (Nat → Int32)) (nt : Int32) (nr : (Nat → Int32)) (nh : Int32) (ns : (Nat → Int32)) (nk : (Nat → Int32)) (ne : Int32) (nw : Int32) (na : (Nat → Int32)) (nf : (Nat → Int32)) (nc : Int32) (ng : (Nat → Int32)) (nx : Int64) (p0 : Int32) (p1 : Int32) (res : Int32) (hf : pf_X7_heldNow nr nh ns nk p0 p1 = some res) : jMi l yX7_heldNow wsX7_heldNow ({ frames := 2, cells := 0, slots := 0, locals := 49 }) D [(cI, .int), (cL, .long)] [.ref (a 0), .int p0, .int p1] (wM a cI cL nl np nt nr nh ns nk ne nw na nf nc ng nx) res (wM a cI cL nl np nt nr nh ns nk ne nw na nf nc ng nx) := by
  intro sz
  refine Met.ofW (cc := cX7_heldNow) (maxL := 4) (ret := (some .int)) (by decide) rfl ?_
  intro p e s m args below meth c s₁ B hml hv
  obtain ⟨rfl, hsz, hP, hK, hD0, hN⟩ := hv
  have hx := B.exec
  have hb := B.bytes
  have hr := B.returns
  have hts := atoms_spec (ws := wsX7_heldNow) B.pre
  have hown : s.vm.findClass RX7 = some m.cls := findClass_of_methodNamed B.named
  have hlocks := B.notSynchronized
  subst hsz
  have hD := hD0.self (sz := s.heap.size)
  generalize hAe : va_A (wM a cI cL nl np nt nr nh ns nk ne nw na nf nc ng nx) s.heap.size = A at hD ⊢
  have hA : ∀ q : Nat, s.heap.size ≤ q → A q := fun q h => by rw [← hAe]; exact Or.inr h
  have hS : va_S A s.heap s.heap [] := va_S.rf
  have hl := lv_entry ([.ref (a 0), .int p0, .int p1]) (n := 4) (Nat.le_of_ble_eq_true rfl)
  rw [lg_entry_eq]
  generalize (lg_sl ([.ref (a 0), .int p0, .int p1]) ++ List.replicate (4 - (lg_sl ([.ref (a 0), .int p0, .int p1])).length) Slot.unset).toArray = ls at hl ⊢
  have hl : lv_has ls 4 [(0, .ref (a 0)), (1, .int p0), (2, .int p1)] := hl
  have hf : pf_X7_heldNow nr nh ns nk p0 p1 = some res := hf
  refine lv_iconst (v := 3) hx hb dX7_heldNow_0 (by decide) ?_
  refine lv_istore_n (lv' := [(3, .int (3 : Int32)), (0, .ref (a 0)), (1, .int p0), (2, .int p1)]) hx hb dX7_heldNow_1 rfl hl (by decide) rfl (fun ls hl => ?_)
  obtain ⟨k2, hf, hkk2⟩ := jx_bs hf
  have hXk2 : ∀ (H : Heap) (locs : List Loc) (ls : Array Slot), va_P D vwCl (wM a cI cL nl np nt nr nh ns nk ne nw na nf nc ng nx) H → va_D A (wM a cI cL nl np nt nr nh ns nk ne nw na nf nc ng nx) → va_S A s.heap H locs → lv_has ls 4 [(3, .int k2)] → jx_Wi p l e wsX7_heldNow ({ frames := 2, cells := 0, slots := 0, locals := 49 }) s m [.ref (a 0), .int p0, .int p1] below meth c D [(cI, .int), (cL, .long)] res (wM a cI cL nl np nt nr nh ns nk ne nw na nf nc ng nx) A H locs (F0 m 29 ls []) := by
    clear hf hP hD hS hl
    intro H locs ls hP hD hS hl
    have hf := hkk2
    refine lv_iload_n hx hb dX7_heldNow_29 rfl (lv_at hl 0 rfl) ?_
    have he := jx_eq hf
    subst he
    exact jx_reti hx hb hr hlocks rfl hK hP hD hS dX7_heldNow_30
  have hLk2 : ∀ (n : Nat) (s1 : Int32) (H : Heap) (locs : List Loc) (ls : Array Slot), jx_iter (pf_X7_heldNow_s1 nr nh ns nk p0 p1) n s1 = some k2 → va_P D vwCl (wM a cI cL nl np nt nr nh ns nk ne nw na nf nc ng nx) H → va_D A (wM a cI cL nl np nt nr nh ns nk ne nw na nf nc ng nx) → va_S A s.heap H locs → lv_has ls 4 [(0, .ref (a 0)), (1, .int p0), (2, .int p1), (3, .int s1)] → jx_Wi p l e wsX7_heldNow ({ frames := 2, cells := 0, slots := 0, locals := 49 }) s m [.ref (a 0), .int p0, .int p1] below meth c D [(cI, .int), (cL, .long)] res (wM a cI cL nl np nt nr nh ns nk ne nw na nf nc ng nx) A H locs (F0 m 2 ls []) := by
    clear hf hP hD hS hl
    intro n
    induction n with
    | zero => intro s1 _ _ _ hf; cases hf
    | succ n ihk2 =>
      intro s1 H locs ls hf hP hD hS hl
      obtain ⟨q3, hf, hgk2⟩ := jx_bs hf
      refine lv_iload_n hx hb dX7_heldNow_2 rfl (lv_at hl 3 rfl) ?_
      refine lv_if_le (tgt := 29) hx hb dX7_heldNow_3 (by decide) (fun hq => ?_) (fun hq => ?_)
      · replace hf := jx_pos hq hf
        have he := jx_eq hf
        subst he
        have he : _ = k2 := jx_eq hgk2
        subst he
        exact hXk2 _ _ _ hP hD hS (lv_sub hl [3] rfl)
      · replace hf := jx_neg hq hf
        refine lv_aload_n hx hb dX7_heldNow_6 rfl (lv_at hl 0 rfl) ?_
        refine lv_aload_n hx hb dX7_heldNow_7 rfl (lv_at hl 0 rfl) ?_
        refine va_get (D := D) (ci := 6) (v := .int nh) (C := RX7) (T := TX7) (N := 14) hx hb hts iw_X7_heldNow_X7 hown hK hP 0 rfl rfl 4 (by decide) (hts (.fieldLink RX7 65 "PassedDutiesModel" "there" "I") (by decide +kernel)) (fun _ h9 => h9) rfl dX7_heldNow_8 ?_
        refine lv_iload_n hx hb dX7_heldNow_11 rfl (lv_at hl 2 rfl) ?_
        refine lv_iload_n hx hb dX7_heldNow_12 rfl (lv_at hl 3 rfl) ?_
        obtain ⟨r4, hc, hf⟩ := jx_bs hf
        refine jx_ki (wr := []) (ws2 := (wM a cI cL nl np nt nr nh ns nk ne nw na nf nc ng nx)) (jx_runV (As := [.int nh, .int p1, .int s1]) (rest := []) ⟨hx, hb, hml, hown, hts⟩ (c_X7_withReach l D a cI cL nl np nt nr nh ns nk ne nw na nf nc ng nx nh p1 s1 r4 hc _) (cwV 3 hts gX7_heldNow_X7_withReach rfl rfl rfl (by decide +kernel) ⟨Nat.le_of_ble_eq_true rfl, Nat.le_of_ble_eq_true rfl⟩) hK hN hP hD [0, 1, 2, 3, 4, 5, 6, 7] rfl (by decide) 0 6 rfl rfl rfl hl.1 rfl (Nat.le_of_ble_eq_true rfl) dX7_heldNow_13 ⟨Nat.le_of_ble_eq_true rfl, Nat.le_of_ble_eq_true rfl⟩) hP hD hS hA [0, 1, 2, 3, 4, 5, 6, 7] [] [0, 1, 2, 3, 4, 5, 6, 7] rfl rfl (by decide) (by decide) rfl (by decide) (fun H locs hP hD hS => ?_)
        clear hc
        refine lv_iload_n hx hb dX7_heldNow_16 rfl (lv_at hl 1 rfl) ?_
        obtain ⟨r5, hc, hf⟩ := jx_bs hf
        refine jx_ki (wr := [((a 0), .inr (6, [.int nl, .ref (a 1), .int nt, .ref (a 2), .int nh, .ref (a 3), .ref (a 4), .int ne, .int nw, .ref (a 5), .ref (a 6), .int nc, .ref (a 7), .long nx])), ((a 1), .inl (cI, 24, .inl np)), ((a 2), .inl (cI, 108, .inl nr)), ((a 3), .inl (cI, 8, .inl ns)), ((a 4), .inl (cI, 64, .inl nk)), ((a 5), .inl (cI, 8, .inl na)), ((a 6), .inl (cI, 8, .inl nf)), ((a 7), .inl (cI, 48, .inl ng))]) (ws2 := (wM a cI cL nl np nt nr nh ns nk ne nw na nf nc ng nx)) (jx_runS (As := [.int r4, .int p0]) (rest := []) ⟨hx, hb, hml, hown, hts⟩ (c_X7_has l D a cI cL r4 p0 r5 hc _) (va_cwS 2 hts gX7_heldNow_X7_has rfl rfl rfl (by decide +kernel) ⟨Nat.le_of_ble_eq_true rfl, Nat.le_of_ble_eq_true rfl⟩) hK hN hP hD [] rfl (by decide) rfl hl.1 rfl (Nat.le_of_ble_eq_true rfl) dX7_heldNow_17 ⟨Nat.le_of_ble_eq_true rfl, Nat.le_of_ble_eq_true rfl⟩) hP hD hS hA [] [0, 1, 2, 3, 4, 5, 6, 7] [0, 1, 2, 3, 4, 5, 6, 7] rfl rfl (by decide) (by decide) rfl (by decide) (fun H locs hP hD hS => ?_)
        clear hc
        refine lv_if_ne (tgt := 29) hx hb dX7_heldNow_20 (by decide) (fun hq => ?_) (fun hq => ?_)
        · replace hf := jx_pos hq hf
          have he := jx_eq hf
          subst he
          have he : _ = k2 := jx_eq hgk2
          subst he
          exact hXk2 _ _ _ hP hD hS (lv_sub hl [3] rfl)
        · replace hf := jx_negn hq hf
          refine lv_iinc (v := (s1 + (-1 : Int32))) (lv' := [(3, .int (s1 + (-1 : Int32))), (0, .ref (a 0)), (1, .int p0), (2, .int p1)]) hx hb dX7_heldNow_23 hl (k := 3) rfl rfl (by decide) rfl (fun ls hl => ?_)
          refine lv_goto (tgt := 2) hx hb dX7_heldNow_26 (by decide) ?_
          have he := jx_eq hf
          subst he
          exact ihk2 (s1 + (-1 : Int32)) _ _ _ hgk2 hP hD hS (lv_sub hl [1, 2, 3, 0] rfl)
  exact hLk2 jx_F (3 : Int32) _ _ _ hf hP hD hS (lv_sub hl [1, 2, 3, 0] rfl)
theorem iw_X7_mixPart_X7 : ∀ w ∈ wsX70, w ∈ wsX7_mixPart := by decide +kernel
set_option maxHeartbeats 4000000 in
set_option maxRecDepth 100000 in
theorem c_X7_mixPart (l : Launch) (D : va_G) (a : Nat → Nat) (cI cL : ClassId) (nl : Int32) (np : (Nat → Int32)) (nt : Int32) (nr : (Nat → Int32)) (nh : Int32) (ns : (Nat → Int32)) (nk : (Nat → Int32)) (ne : Int32) (nw : Int32) (na : (Nat → Int32)) (nf : (Nat → Int32)) (nc : Int32) (ng : (Nat → Int32)) (nx : Int64) (p0 : Int32) (res : Int64) (hf : pf_X7_mixPart nr nh ns nk nx p0 = some res) : jMv l yX7_mixPart wsX7_mixPart ({ frames := 5, cells := 0, slots := 0, locals := 120 }) D [(cI, .int), (cL, .long)] [.ref (a 0), .int p0] (wM a cI cL nl np nt nr nh ns nk ne nw na nf nc ng nx) (wM a cI cL nl np nt nr nh ns nk ne nw na nf nc ng res) := by
  intro sz
  refine Met.ofW (cc := cX7_mixPart) (maxL := 3) (ret := none) (by decide) rfl ?_
  intro p e s m args below meth c s₁ B hml hv
  obtain ⟨rfl, hsz, hP, hK, hD0, hN⟩ := hv
  have hx := B.exec
  have hb := B.bytes
  have hr := B.returns
  have hts := atoms_spec (ws := wsX7_mixPart) B.pre
  have hown : s.vm.findClass RX7 = some m.cls := findClass_of_methodNamed B.named
  have hlocks := B.notSynchronized
  subst hsz
  have hD := hD0.self (sz := s.heap.size)
  generalize hAe : va_A (wM a cI cL nl np nt nr nh ns nk ne nw na nf nc ng nx) s.heap.size = A at hD ⊢
  have hA : ∀ q : Nat, s.heap.size ≤ q → A q := fun q h => by rw [← hAe]; exact Or.inr h
  have hS : va_S A s.heap s.heap [] := va_S.rf
  have hl := lv_entry ([.ref (a 0), .int p0]) (n := 3) (Nat.le_of_ble_eq_true rfl)
  rw [lg_entry_eq]
  generalize (lg_sl ([.ref (a 0), .int p0]) ++ List.replicate (3 - (lg_sl ([.ref (a 0), .int p0])).length) Slot.unset).toArray = ls at hl ⊢
  have hl : lv_has ls 3 [(0, .ref (a 0)), (1, .int p0)] := hl
  have hf : pf_X7_mixPart nr nh ns nk nx p0 = some res := hf
  refine lv_aload_n hx hb dX7_mixPart_0 rfl (lv_at hl 0 rfl) ?_
  refine lv_iload_n hx hb dX7_mixPart_1 rfl (lv_at hl 1 rfl) ?_
  refine lv_i2l (v := (p0).toInt64) hx hb dX7_mixPart_2 rfl ?_
  obtain ⟨r1, hc, hf⟩ := jx_bs hf
  refine jx_kv (wr := []) (ws2 := (wM a cI cL nl np nt nr nh ns nk ne nw na nf nc ng r1)) (jx_runV (As := [.long (p0).toInt64]) (rest := []) ⟨hx, hb, hml, hown, hts⟩ (c_X7_mix l D a cI cL nl np nt nr nh ns nk ne nw na nf nc ng nx (p0).toInt64 r1 hc _) (cwV 1 hts gX7_mixPart_X7_mix rfl rfl rfl (by decide +kernel) ⟨Nat.le_of_ble_eq_true rfl, Nat.le_of_ble_eq_true rfl⟩) hK hN hP hD [0, 1, 2, 3, 4, 5, 6, 7] rfl (by decide) 0 6 rfl rfl rfl hl.1 rfl (Nat.le_of_ble_eq_true rfl) dX7_mixPart_3 ⟨Nat.le_of_ble_eq_true rfl, Nat.le_of_ble_eq_true rfl⟩) hP hD hS hA [0, 1, 2, 3, 4, 5, 6, 7] [] [0, 1, 2, 3, 4, 5, 6, 7] rfl rfl (by decide) (by decide) rfl (by decide) (fun H locs hP hD hS => ?_)
  clear hc
  refine lv_iconst (v := 0) hx hb dX7_mixPart_6 (by decide) ?_
  refine lv_istore_n (lv' := [(2, .int (0 : Int32)), (0, .ref (a 0)), (1, .int p0)]) hx hb dX7_mixPart_7 rfl hl (by decide) rfl (fun ls hl => ?_)
  obtain ⟨k3, hf, hkk3⟩ := jx_bs hf
  have hXk3 : ∀ (H : Heap) (locs : List Loc) (ls : Array Slot), va_P D vwCl (wM a cI cL nl np nt nr nh ns nk ne nw na nf nc ng k3) H → va_D A (wM a cI cL nl np nt nr nh ns nk ne nw na nf nc ng k3) → va_S A s.heap H locs → lv_has ls 3 [(0, .ref (a 0)), (1, .int p0)] → jx_Wv p l e wsX7_mixPart ({ frames := 5, cells := 0, slots := 0, locals := 120 }) s m [.ref (a 0), .int p0] below meth c D [(cI, .int), (cL, .long)] (wM a cI cL nl np nt nr nh ns nk ne nw na nf nc ng res) A H locs (F0 m 31 ls []) := by
    clear hf hP hD hS hl
    intro H locs ls hP hD hS hl
    have hf := hkk3
    refine lv_iconst (v := 0) hx hb dX7_mixPart_31 (by decide) ?_
    refine lv_istore_n (lv' := [(2, .int (0 : Int32)), (0, .ref (a 0)), (1, .int p0)]) hx hb dX7_mixPart_32 rfl hl (by decide) rfl (fun ls hl => ?_)
    obtain ⟨k8, hf, hkk8⟩ := jx_bs hf
    have hXk8 : ∀ (H : Heap) (locs : List Loc) (ls : Array Slot), va_P D vwCl (wM a cI cL nl np nt nr nh ns nk ne nw na nf nc ng k8) H → va_D A (wM a cI cL nl np nt nr nh ns nk ne nw na nf nc ng k8) → va_S A s.heap H locs → lv_has ls 3 [(0, .ref (a 0)), (1, .int p0)] → jx_Wv p l e wsX7_mixPart ({ frames := 5, cells := 0, slots := 0, locals := 120 }) s m [.ref (a 0), .int p0] below meth c D [(cI, .int), (cL, .long)] (wM a cI cL nl np nt nr nh ns nk ne nw na nf nc ng res) A H locs (F0 m 56 ls []) := by
      clear hf hP hD hS hl
      intro H locs ls hP hD hS hl
      have hf := hkk8
      refine lv_iconst (v := 0) hx hb dX7_mixPart_56 (by decide) ?_
      refine lv_istore_n (lv' := [(2, .int (0 : Int32)), (0, .ref (a 0)), (1, .int p0)]) hx hb dX7_mixPart_57 rfl hl (by decide) rfl (fun ls hl => ?_)
      obtain ⟨k13, hf, hkk13⟩ := jx_bs hf
      have hXk13 : ∀ (H : Heap) (locs : List Loc) (ls : Array Slot), va_P D vwCl (wM a cI cL nl np nt nr nh ns nk ne nw na nf nc ng k13) H → va_D A (wM a cI cL nl np nt nr nh ns nk ne nw na nf nc ng k13) → va_S A s.heap H locs → lv_has ls 3 [] → jx_Wv p l e wsX7_mixPart ({ frames := 5, cells := 0, slots := 0, locals := 120 }) s m [.ref (a 0), .int p0] below meth c D [(cI, .int), (cL, .long)] (wM a cI cL nl np nt nr nh ns nk ne nw na nf nc ng res) A H locs (F0 m 97 ls []) := by
        clear hf hP hD hS hl
        intro H locs ls hP hD hS hl
        have hf := hkk13
        have he := jx_eq hf
        subst he
        exact jx_retv hx hb hr hlocks hK hP hD hS dX7_mixPart_97
      have hLk13 : ∀ (n : Nat) (s12 : (Int32 × Int64)) (H : Heap) (locs : List Loc) (ls : Array Slot), jx_iter (pf_X7_mixPart_s3 nh nk p0) n s12 = some k13 → va_P D vwCl (wM a cI cL nl np nt nr nh ns nk ne nw na nf nc ng s12.2) H → va_D A (wM a cI cL nl np nt nr nh ns nk ne nw na nf nc ng s12.2) → va_S A s.heap H locs → lv_has ls 3 [(0, .ref (a 0)), (1, .int p0), (2, .int s12.1)] → jx_Wv p l e wsX7_mixPart ({ frames := 5, cells := 0, slots := 0, locals := 120 }) s m [.ref (a 0), .int p0] below meth c D [(cI, .int), (cL, .long)] (wM a cI cL nl np nt nr nh ns nk ne nw na nf nc ng res) A H locs (F0 m 58 ls []) := by
        clear hf hP hD hS hl
        intro n
        induction n with
        | zero => intro s12 _ _ _ hf; cases hf
        | succ n ihk13 =>
          intro s12 H locs ls hf hP hD hS hl
          obtain ⟨q14, hf, hgk13⟩ := jx_bs hf
          refine lv_iload_n hx hb dX7_mixPart_58 rfl (lv_at hl 2 rfl) ?_
          refine lv_bipush (v := 8) hx hb dX7_mixPart_59 (by decide) ?_
          refine lv_icmp_ge (tgt := 97) hx hb dX7_mixPart_61 (by decide) (fun hq => ?_) (fun hq => ?_)
          · replace hf := jx_pos hq hf
            have he := jx_eq hf
            subst he
            have he : _ = k13 := jx_eq hgk13
            subst he
            exact hXk13 _ _ _ hP hD hS (lv_sub hl [] rfl)
          · replace hf := jx_neg hq hf
            refine lv_aload_n hx hb dX7_mixPart_64 rfl (lv_at hl 0 rfl) ?_
            refine va_get (D := D) (ci := 6) (v := .int nh) (C := RX7) (T := TX7) (N := 14) hx hb hts iw_X7_mixPart_X7 hown hK hP 0 rfl rfl 4 (by decide) (hts (.fieldLink RX7 65 "PassedDutiesModel" "there" "I") (by decide +kernel)) (fun _ h9 => h9) rfl dX7_mixPart_65 ?_
            refine lv_iload_n hx hb dX7_mixPart_68 rfl (lv_at hl 2 rfl) ?_
            obtain ⟨r15, hc, hf⟩ := jx_bs hf
            refine jx_ki (wr := [((a 0), .inr (6, [.int nl, .ref (a 1), .int nt, .ref (a 2), .int nh, .ref (a 3), .ref (a 4), .int ne, .int nw, .ref (a 5), .ref (a 6), .int nc, .ref (a 7), .long s12.2])), ((a 1), .inl (cI, 24, .inl np)), ((a 2), .inl (cI, 108, .inl nr)), ((a 3), .inl (cI, 8, .inl ns)), ((a 4), .inl (cI, 64, .inl nk)), ((a 5), .inl (cI, 8, .inl na)), ((a 6), .inl (cI, 8, .inl nf)), ((a 7), .inl (cI, 48, .inl ng))]) (ws2 := (wM a cI cL nl np nt nr nh ns nk ne nw na nf nc ng s12.2)) (jx_runS (As := [.int nh, .int s12.1]) (rest := []) ⟨hx, hb, hml, hown, hts⟩ (c_X7_has l D a cI cL nh s12.1 r15 hc _) (va_cwS 2 hts gX7_mixPart_X7_has rfl rfl rfl (by decide +kernel) ⟨Nat.le_of_ble_eq_true rfl, Nat.le_of_ble_eq_true rfl⟩) hK hN hP hD [] rfl (by decide) rfl hl.1 rfl (Nat.le_of_ble_eq_true rfl) dX7_mixPart_69 ⟨Nat.le_of_ble_eq_true rfl, Nat.le_of_ble_eq_true rfl⟩) hP hD hS hA [] [0, 1, 2, 3, 4, 5, 6, 7] [0, 1, 2, 3, 4, 5, 6, 7] rfl rfl (by decide) (by decide) rfl (by decide) (fun H locs hP hD hS => ?_)
            clear hc
            obtain ⟨j16, hf, hkj16⟩ := jx_bs hf
            have hJj16 : ∀ (H : Heap) (locs : List Loc) (ls : Array Slot), va_P D vwCl (wM a cI cL nl np nt nr nh ns nk ne nw na nf nc ng j16) H → va_D A (wM a cI cL nl np nt nr nh ns nk ne nw na nf nc ng j16) → va_S A s.heap H locs → lv_has ls 3 [(0, .ref (a 0)), (1, .int p0), (2, .int s12.1)] → jx_Wv p l e wsX7_mixPart ({ frames := 5, cells := 0, slots := 0, locals := 120 }) s m [.ref (a 0), .int p0] below meth c D [(cI, .int), (cL, .long)] (wM a cI cL nl np nt nr nh ns nk ne nw na nf nc ng res) A H locs (F0 m 91 ls []) := by
              clear hf hP hD hS hl
              intro H locs ls hP hD hS hl
              have hf := hkj16
              refine lv_iinc (v := (s12.1 + (1 : Int32))) (lv' := [(2, .int (s12.1 + (1 : Int32))), (0, .ref (a 0)), (1, .int p0)]) hx hb dX7_mixPart_91 hl (k := 2) rfl rfl (by decide) rfl (fun ls hl => ?_)
              refine lv_goto (tgt := 58) hx hb dX7_mixPart_94 (by decide) ?_
              have he := jx_eq hf
              subst he
              exact ihk13 ((s12.1 + (1 : Int32)), j16) _ _ _ hgk13 hP hD hS (lv_sub hl [1, 2, 0] rfl)
            refine lv_if_eq (tgt := 91) hx hb dX7_mixPart_72 (by decide) (fun hq => ?_) (fun hq => ?_)
            · replace hf := jx_pos hq hf
              have he := jx_eq hf
              subst he
              exact hJj16 _ _ _ hP hD hS (lv_sub hl [0, 1, 2] rfl)
            · replace hf := jx_neg hq hf
              refine lv_aload_n hx hb dX7_mixPart_75 rfl (lv_at hl 0 rfl) ?_
              refine lv_aload_n hx hb dX7_mixPart_76 rfl (lv_at hl 0 rfl) ?_
              refine va_get (D := D) (ci := 6) (v := .ref (a 4)) (C := RX7) (T := TX7) (N := 14) hx hb hts iw_X7_mixPart_X7 hown hK hP 0 rfl rfl 6 (by decide) (hts (.fieldLink RX7 19 "PassedDutiesModel" "kinds" "[I") (by decide +kernel)) (fun _ h9 => h9) rfl dX7_mixPart_77 ?_
              refine lv_bipush (v := 8) hx hb dX7_mixPart_80 (by decide) ?_
              refine lv_iload_n hx hb dX7_mixPart_82 rfl (lv_at hl 1 rfl) ?_
              refine lv_imul hx hb dX7_mixPart_83 ?_
              refine lv_iload_n hx hb dX7_mixPart_84 rfl (lv_at hl 2 rfl) ?_
              refine lv_iadd hx hb dX7_mixPart_85 ?_
              obtain ⟨hi, hf⟩ := jx_gs hf
              refine va_iald hx hb hK hP 4 0 rfl rfl (jx_ip hi) dX7_mixPart_86 ?_
              clear hi
              refine lv_i2l (v := ((nk ((((8 : Int32) * p0) + s12.1)).toNatClampNeg)).toInt64) hx hb dX7_mixPart_87 rfl ?_
              obtain ⟨r17, hc, hf⟩ := jx_bs hf
              refine jx_kv (wr := []) (ws2 := (wM a cI cL nl np nt nr nh ns nk ne nw na nf nc ng r17)) (jx_runV (As := [.long ((nk ((((8 : Int32) * p0) + s12.1)).toNatClampNeg)).toInt64]) (rest := []) ⟨hx, hb, hml, hown, hts⟩ (c_X7_mix l D a cI cL nl np nt nr nh ns nk ne nw na nf nc ng s12.2 ((nk ((((8 : Int32) * p0) + s12.1)).toNatClampNeg)).toInt64 r17 hc _) (cwV 1 hts gX7_mixPart_X7_mix rfl rfl rfl (by decide +kernel) ⟨Nat.le_of_ble_eq_true rfl, Nat.le_of_ble_eq_true rfl⟩) hK hN hP hD [0, 1, 2, 3, 4, 5, 6, 7] rfl (by decide) 0 6 rfl rfl rfl hl.1 rfl (Nat.le_of_ble_eq_true rfl) dX7_mixPart_88 ⟨Nat.le_of_ble_eq_true rfl, Nat.le_of_ble_eq_true rfl⟩) hP hD hS hA [0, 1, 2, 3, 4, 5, 6, 7] [] [0, 1, 2, 3, 4, 5, 6, 7] rfl rfl (by decide) (by decide) rfl (by decide) (fun H locs hP hD hS => ?_)
              clear hc
              have he := jx_eq hf
              subst he
              exact hJj16 _ _ _ hP hD hS (lv_sub hl [0, 1, 2] rfl)
      exact hLk13 jx_F ((0 : Int32), k8) _ _ _ hf hP hD hS (lv_sub hl [1, 2, 0] rfl)
    have hLk8 : ∀ (n : Nat) (s7 : (Int32 × Int64)) (H : Heap) (locs : List Loc) (ls : Array Slot), jx_iter (pf_X7_mixPart_s2 nr nh ns nk p0) n s7 = some k8 → va_P D vwCl (wM a cI cL nl np nt nr nh ns nk ne nw na nf nc ng s7.2) H → va_D A (wM a cI cL nl np nt nr nh ns nk ne nw na nf nc ng s7.2) → va_S A s.heap H locs → lv_has ls 3 [(0, .ref (a 0)), (1, .int p0), (2, .int s7.1)] → jx_Wv p l e wsX7_mixPart ({ frames := 5, cells := 0, slots := 0, locals := 120 }) s m [.ref (a 0), .int p0] below meth c D [(cI, .int), (cL, .long)] (wM a cI cL nl np nt nr nh ns nk ne nw na nf nc ng res) A H locs (F0 m 33 ls []) := by
      clear hf hP hD hS hl
      intro n
      induction n with
      | zero => intro s7 _ _ _ hf; cases hf
      | succ n ihk8 =>
        intro s7 H locs ls hf hP hD hS hl
        obtain ⟨q9, hf, hgk8⟩ := jx_bs hf
        refine lv_iload_n hx hb dX7_mixPart_33 rfl (lv_at hl 2 rfl) ?_
        refine lv_bipush (v := 12) hx hb dX7_mixPart_34 (by decide) ?_
        refine lv_icmp_ge (tgt := 56) hx hb dX7_mixPart_36 (by decide) (fun hq => ?_) (fun hq => ?_)
        · replace hf := jx_pos hq hf
          have he := jx_eq hf
          subst he
          have he : _ = k8 := jx_eq hgk8
          subst he
          exact hXk8 _ _ _ hP hD hS (lv_sub hl [0, 1] rfl)
        · replace hf := jx_neg hq hf
          refine lv_aload_n hx hb dX7_mixPart_39 rfl (lv_at hl 0 rfl) ?_
          refine lv_aload_n hx hb dX7_mixPart_40 rfl (lv_at hl 0 rfl) ?_
          refine lv_iload_n hx hb dX7_mixPart_41 rfl (lv_at hl 1 rfl) ?_
          refine lv_iload_n hx hb dX7_mixPart_42 rfl (lv_at hl 2 rfl) ?_
          obtain ⟨r10, hc, hf⟩ := jx_bs hf
          refine jx_ki (wr := []) (ws2 := (wM a cI cL nl np nt nr nh ns nk ne nw na nf nc ng s7.2)) (jx_runV (As := [.int p0, .int s7.1]) (rest := [.ref (a 0)]) ⟨hx, hb, hml, hown, hts⟩ (c_X7_heldNow l D a cI cL nl np nt nr nh ns nk ne nw na nf nc ng s7.2 p0 s7.1 r10 hc _) (cwV 2 hts gX7_mixPart_X7_heldNow rfl rfl rfl (by decide +kernel) ⟨Nat.le_of_ble_eq_true rfl, Nat.le_of_ble_eq_true rfl⟩) hK hN hP hD [0, 1, 2, 3, 4, 5, 6, 7] rfl (by decide) 0 6 rfl rfl rfl hl.1 rfl (Nat.le_of_ble_eq_true rfl) dX7_mixPart_43 ⟨Nat.le_of_ble_eq_true rfl, Nat.le_of_ble_eq_true rfl⟩) hP hD hS hA [0, 1, 2, 3, 4, 5, 6, 7] [] [0, 1, 2, 3, 4, 5, 6, 7] rfl rfl (by decide) (by decide) rfl (by decide) (fun H locs hP hD hS => ?_)
          clear hc
          refine lv_i2l (v := (r10).toInt64) hx hb dX7_mixPart_46 rfl ?_
          obtain ⟨r11, hc, hf⟩ := jx_bs hf
          refine jx_kv (wr := []) (ws2 := (wM a cI cL nl np nt nr nh ns nk ne nw na nf nc ng r11)) (jx_runV (As := [.long (r10).toInt64]) (rest := []) ⟨hx, hb, hml, hown, hts⟩ (c_X7_mix l D a cI cL nl np nt nr nh ns nk ne nw na nf nc ng s7.2 (r10).toInt64 r11 hc _) (cwV 1 hts gX7_mixPart_X7_mix rfl rfl rfl (by decide +kernel) ⟨Nat.le_of_ble_eq_true rfl, Nat.le_of_ble_eq_true rfl⟩) hK hN hP hD [0, 1, 2, 3, 4, 5, 6, 7] rfl (by decide) 0 6 rfl rfl rfl hl.1 rfl (Nat.le_of_ble_eq_true rfl) dX7_mixPart_47 ⟨Nat.le_of_ble_eq_true rfl, Nat.le_of_ble_eq_true rfl⟩) hP hD hS hA [0, 1, 2, 3, 4, 5, 6, 7] [] [0, 1, 2, 3, 4, 5, 6, 7] rfl rfl (by decide) (by decide) rfl (by decide) (fun H locs hP hD hS => ?_)
          clear hc
          refine lv_iinc (v := (s7.1 + (1 : Int32))) (lv' := [(2, .int (s7.1 + (1 : Int32))), (0, .ref (a 0)), (1, .int p0)]) hx hb dX7_mixPart_50 hl (k := 2) rfl rfl (by decide) rfl (fun ls hl => ?_)
          refine lv_goto (tgt := 33) hx hb dX7_mixPart_53 (by decide) ?_
          have he := jx_eq hf
          subst he
          exact ihk8 ((s7.1 + (1 : Int32)), r11) _ _ _ hgk8 hP hD hS (lv_sub hl [1, 2, 0] rfl)
    exact hLk8 jx_F ((0 : Int32), k3) _ _ _ hf hP hD hS (lv_sub hl [1, 2, 0] rfl)
  have hLk3 : ∀ (n : Nat) (s2 : (Int32 × Int64)) (H : Heap) (locs : List Loc) (ls : Array Slot), jx_iter (pf_X7_mixPart_s1 nr nh ns nk p0) n s2 = some k3 → va_P D vwCl (wM a cI cL nl np nt nr nh ns nk ne nw na nf nc ng s2.2) H → va_D A (wM a cI cL nl np nt nr nh ns nk ne nw na nf nc ng s2.2) → va_S A s.heap H locs → lv_has ls 3 [(0, .ref (a 0)), (1, .int p0), (2, .int s2.1)] → jx_Wv p l e wsX7_mixPart ({ frames := 5, cells := 0, slots := 0, locals := 120 }) s m [.ref (a 0), .int p0] below meth c D [(cI, .int), (cL, .long)] (wM a cI cL nl np nt nr nh ns nk ne nw na nf nc ng res) A H locs (F0 m 8 ls []) := by
    clear hf hP hD hS hl
    intro n
    induction n with
    | zero => intro s2 _ _ _ hf; cases hf
    | succ n ihk3 =>
      intro s2 H locs ls hf hP hD hS hl
      obtain ⟨q4, hf, hgk3⟩ := jx_bs hf
      refine lv_iload_n hx hb dX7_mixPart_8 rfl (lv_at hl 2 rfl) ?_
      refine lv_bipush (v := 7) hx hb dX7_mixPart_9 (by decide) ?_
      refine lv_icmp_ge (tgt := 31) hx hb dX7_mixPart_11 (by decide) (fun hq => ?_) (fun hq => ?_)
      · replace hf := jx_pos hq hf
        have he := jx_eq hf
        subst he
        have he : _ = k3 := jx_eq hgk3
        subst he
        exact hXk3 _ _ _ hP hD hS (lv_sub hl [0, 1] rfl)
      · replace hf := jx_neg hq hf
        refine lv_aload_n hx hb dX7_mixPart_14 rfl (lv_at hl 0 rfl) ?_
        refine lv_aload_n hx hb dX7_mixPart_15 rfl (lv_at hl 0 rfl) ?_
        refine lv_iload_n hx hb dX7_mixPart_16 rfl (lv_at hl 1 rfl) ?_
        refine lv_iload_n hx hb dX7_mixPart_17 rfl (lv_at hl 2 rfl) ?_
        obtain ⟨r5, hc, hf⟩ := jx_bs hf
        refine jx_ki (wr := []) (ws2 := (wM a cI cL nl np nt nr nh ns nk ne nw na nf nc ng s2.2)) (jx_runV (As := [.int p0, .int s2.1]) (rest := [.ref (a 0)]) ⟨hx, hb, hml, hown, hts⟩ (c_X7_partNow l D a cI cL nl np nt nr nh ns nk ne nw na nf nc ng s2.2 p0 s2.1 r5 hc _) (cwV 2 hts gX7_mixPart_X7_partNow rfl rfl rfl (by decide +kernel) ⟨Nat.le_of_ble_eq_true rfl, Nat.le_of_ble_eq_true rfl⟩) hK hN hP hD [0, 1, 2, 3, 4, 5, 6, 7] rfl (by decide) 0 6 rfl rfl rfl hl.1 rfl (Nat.le_of_ble_eq_true rfl) dX7_mixPart_18 ⟨Nat.le_of_ble_eq_true rfl, Nat.le_of_ble_eq_true rfl⟩) hP hD hS hA [0, 1, 2, 3, 4, 5, 6, 7] [] [0, 1, 2, 3, 4, 5, 6, 7] rfl rfl (by decide) (by decide) rfl (by decide) (fun H locs hP hD hS => ?_)
        clear hc
        refine lv_i2l (v := (r5).toInt64) hx hb dX7_mixPart_21 rfl ?_
        obtain ⟨r6, hc, hf⟩ := jx_bs hf
        refine jx_kv (wr := []) (ws2 := (wM a cI cL nl np nt nr nh ns nk ne nw na nf nc ng r6)) (jx_runV (As := [.long (r5).toInt64]) (rest := []) ⟨hx, hb, hml, hown, hts⟩ (c_X7_mix l D a cI cL nl np nt nr nh ns nk ne nw na nf nc ng s2.2 (r5).toInt64 r6 hc _) (cwV 1 hts gX7_mixPart_X7_mix rfl rfl rfl (by decide +kernel) ⟨Nat.le_of_ble_eq_true rfl, Nat.le_of_ble_eq_true rfl⟩) hK hN hP hD [0, 1, 2, 3, 4, 5, 6, 7] rfl (by decide) 0 6 rfl rfl rfl hl.1 rfl (Nat.le_of_ble_eq_true rfl) dX7_mixPart_22 ⟨Nat.le_of_ble_eq_true rfl, Nat.le_of_ble_eq_true rfl⟩) hP hD hS hA [0, 1, 2, 3, 4, 5, 6, 7] [] [0, 1, 2, 3, 4, 5, 6, 7] rfl rfl (by decide) (by decide) rfl (by decide) (fun H locs hP hD hS => ?_)
        clear hc
        refine lv_iinc (v := (s2.1 + (1 : Int32))) (lv' := [(2, .int (s2.1 + (1 : Int32))), (0, .ref (a 0)), (1, .int p0)]) hx hb dX7_mixPart_25 hl (k := 2) rfl rfl (by decide) rfl (fun ls hl => ?_)
        refine lv_goto (tgt := 8) hx hb dX7_mixPart_28 (by decide) ?_
        have he := jx_eq hf
        subst he
        exact ihk3 ((s2.1 + (1 : Int32)), r6) _ _ _ hgk3 hP hD hS (lv_sub hl [1, 2, 0] rfl)
  exact hLk3 jx_F ((0 : Int32), r1) _ _ _ hf hP hD hS (lv_sub hl [1, 2, 0] rfl)
theorem iw_X7_digest_X7 : ∀ w ∈ wsX70, w ∈ wsX7_digest := by decide +kernel
set_option maxHeartbeats 4000000 in
set_option maxRecDepth 100000 in
theorem c_X7_digest (l : Launch) (D : va_G) (a : Nat → Nat) (cI cL : ClassId) (nl : Int32) (np : (Nat → Int32)) (nt : Int32) (nr : (Nat → Int32)) (nh : Int32) (ns : (Nat → Int32)) (nk : (Nat → Int32)) (ne : Int32) (nw : Int32) (na : (Nat → Int32)) (nf : (Nat → Int32)) (nc : Int32) (ng : (Nat → Int32)) (nx : Int64) (res : (Int64 × Int32 × (Nat → Int32) × Int64)) (hf : pf_X7_digest nl np nt nr nh ns nk ne nc ng nx = some res) : jMl l yX7_digest wsX7_digest ({ frames := 7, cells := 0, slots := 0, locals := 159 }) D [(cI, .int), (cL, .long)] [.ref (a 0)] (wM a cI cL nl np nt nr nh ns nk ne nw na nf nc ng nx) res.1 (wM a cI cL nl np nt nr nh ns nk ne nw na nf res.2.1 res.2.2.1 res.2.2.2) := by
  intro sz
  refine Met.ofW (cc := cX7_digest) (maxL := 2) (ret := (some .long)) (by decide) rfl ?_
  intro p e s m args below meth c s₁ B hml hv
  obtain ⟨rfl, hsz, hP, hK, hD0, hN⟩ := hv
  have hx := B.exec
  have hb := B.bytes
  have hr := B.returns
  have hts := atoms_spec (ws := wsX7_digest) B.pre
  have hown : s.vm.findClass RX7 = some m.cls := findClass_of_methodNamed B.named
  have hlocks := B.notSynchronized
  subst hsz
  have hD := hD0.self (sz := s.heap.size)
  generalize hAe : va_A (wM a cI cL nl np nt nr nh ns nk ne nw na nf nc ng nx) s.heap.size = A at hD ⊢
  have hA : ∀ q : Nat, s.heap.size ≤ q → A q := fun q h => by rw [← hAe]; exact Or.inr h
  have hS : va_S A s.heap s.heap [] := va_S.rf
  have hl := lv_entry ([.ref (a 0)]) (n := 2) (Nat.le_of_ble_eq_true rfl)
  rw [lg_entry_eq]
  generalize (lg_sl ([.ref (a 0)]) ++ List.replicate (2 - (lg_sl ([.ref (a 0)])).length) Slot.unset).toArray = ls at hl ⊢
  have hl : lv_has ls 2 [(0, .ref (a 0))] := hl
  have hf : pf_X7_digest nl np nt nr nh ns nk ne nc ng nx = some res := hf
  refine lv_aload_n hx hb dX7_digest_0 rfl (lv_at hl 0 rfl) ?_
  refine lv_ldc2 (v := 1697) hx hb hown (hts (.constantLong RX7 160 (1697)) (by decide +kernel)) dX7_digest_1 ?_
  refine va_put (D := D) (ci := 6) (v := .long (1697 : Int64)) (ty := .long) (C := RX7) (T := TX7) (N := 14) hx hb hts iw_X7_digest_X7 tyX7 tyX7_ok nmX7 hown hK hP hD hS 0 rfl rfl 13 (by decide) (hts (.fieldLink RX7 152 "PassedDutiesModel" "h" "J") (by decide +kernel)) (fun _ h9 => h9) rfl (by decide +kernel) rfl rfl (Nat.le_of_ble_eq_true rfl) dX7_digest_4 (fun H locs hP hD hS => ?_)
  have hP : va_P D vwCl (wM a cI cL nl np nt nr nh ns nk ne nw na nf nc ng (1697 : Int64)) H := hP
  have hD : va_D A (wM a cI cL nl np nt nr nh ns nk ne nw na nf nc ng (1697 : Int64)) := hD
  refine lv_iconst (v := 0) hx hb dX7_digest_7 (by decide) ?_
  refine lv_istore_n (lv' := [(1, .int (0 : Int32)), (0, .ref (a 0))]) hx hb dX7_digest_8 rfl hl (by decide) rfl (fun ls hl => ?_)
  obtain ⟨k2, hf, hkk2⟩ := jx_bs hf
  have hXk2 : ∀ (H : Heap) (locs : List Loc) (ls : Array Slot), va_P D vwCl (wM a cI cL nl np nt nr nh ns nk ne nw na nf nc ng k2) H → va_D A (wM a cI cL nl np nt nr nh ns nk ne nw na nf nc ng k2) → va_S A s.heap H locs → lv_has ls 2 [(0, .ref (a 0))] → jx_Wl p l e wsX7_digest ({ frames := 7, cells := 0, slots := 0, locals := 159 }) s m [.ref (a 0)] below meth c D [(cI, .int), (cL, .long)] (res.1) (wM a cI cL nl np nt nr nh ns nk ne nw na nf res.2.1 res.2.2.1 res.2.2.2) A H locs (F0 m 37 ls []) := by
    clear hf hP hD hS hl
    intro H locs ls hP hD hS hl
    have hf := hkk2
    refine lv_iconst (v := 0) hx hb dX7_digest_37 (by decide) ?_
    refine lv_istore_n (lv' := [(1, .int (0 : Int32)), (0, .ref (a 0))]) hx hb dX7_digest_38 rfl hl (by decide) rfl (fun ls hl => ?_)
    obtain ⟨k6, hf, hkk6⟩ := jx_bs hf
    have hXk6 : ∀ (H : Heap) (locs : List Loc) (ls : Array Slot), va_P D vwCl (wM a cI cL nl np nt nr nh ns nk ne nw na nf nc ng k6) H → va_D A (wM a cI cL nl np nt nr nh ns nk ne nw na nf nc ng k6) → va_S A s.heap H locs → lv_has ls 2 [(0, .ref (a 0))] → jx_Wl p l e wsX7_digest ({ frames := 7, cells := 0, slots := 0, locals := 159 }) s m [.ref (a 0)] below meth c D [(cI, .int), (cL, .long)] (res.1) (wM a cI cL nl np nt nr nh ns nk ne nw na nf res.2.1 res.2.2.1 res.2.2.2) A H locs (F0 m 67 ls []) := by
      clear hf hP hD hS hl
      intro H locs ls hP hD hS hl
      have hf := hkk6
      refine lv_aload_n hx hb dX7_digest_67 rfl (lv_at hl 0 rfl) ?_
      obtain ⟨r11, hc, hf⟩ := jx_bs hf
      refine jx_kv (wr := []) (ws2 := (wM a cI cL nl np nt nr nh ns nk ne nw na nf r11.1 r11.2 k6)) (jx_runV (As := []) (rest := []) ⟨hx, hb, hml, hown, hts⟩ (c_X7_layClashes l D a cI cL nl np nt nr nh ns nk ne nw na nf nc ng k6 r11 hc _) (cwV 0 hts gX7_digest_X7_layClashes rfl rfl rfl (by decide +kernel) ⟨Nat.le_of_ble_eq_true rfl, Nat.le_of_ble_eq_true rfl⟩) hK hN hP hD [0, 1, 2, 3, 4, 5, 6, 7] rfl (by decide) 0 6 rfl rfl rfl hl.1 rfl (Nat.le_of_ble_eq_true rfl) dX7_digest_68 ⟨Nat.le_of_ble_eq_true rfl, Nat.le_of_ble_eq_true rfl⟩) hP hD hS hA [0, 1, 2, 3, 4, 5, 6, 7] [] [0, 1, 2, 3, 4, 5, 6, 7] rfl rfl (by decide) (by decide) rfl (by decide) (fun H locs hP hD hS => ?_)
      clear hc
      refine lv_iconst (v := 0) hx hb dX7_digest_71 (by decide) ?_
      refine lv_istore_n (lv' := [(1, .int (0 : Int32)), (0, .ref (a 0))]) hx hb dX7_digest_72 rfl hl (by decide) rfl (fun ls hl => ?_)
      obtain ⟨k13, hf, hkk13⟩ := jx_bs hf
      have hXk13 : ∀ (H : Heap) (locs : List Loc) (ls : Array Slot), va_P D vwCl (wM a cI cL nl np nt nr nh ns nk ne nw na nf r11.1 r11.2 k13) H → va_D A (wM a cI cL nl np nt nr nh ns nk ne nw na nf r11.1 r11.2 k13) → va_S A s.heap H locs → lv_has ls 2 [(0, .ref (a 0))] → jx_Wl p l e wsX7_digest ({ frames := 7, cells := 0, slots := 0, locals := 159 }) s m [.ref (a 0)] below meth c D [(cI, .int), (cL, .long)] (res.1) (wM a cI cL nl np nt nr nh ns nk ne nw na nf res.2.1 res.2.2.1 res.2.2.2) A H locs (F0 m 125 ls []) := by
        clear hf hP hD hS hl
        intro H locs ls hP hD hS hl
        have hf := hkk13
        refine lv_aload_n hx hb dX7_digest_125 rfl (lv_at hl 0 rfl) ?_
        refine lv_aload_n hx hb dX7_digest_126 rfl (lv_at hl 0 rfl) ?_
        obtain ⟨r18, hc, hf⟩ := jx_bs hf
        refine jx_ki (wr := []) (ws2 := (wM a cI cL nl np nt nr nh ns nk ne nw na nf r11.1 r11.2 k13)) (jx_runV (As := []) (rest := [.ref (a 0)]) ⟨hx, hb, hml, hown, hts⟩ (c_X7_cureNow l D a cI cL nl np nt nr nh ns nk ne nw na nf r11.1 r11.2 k13 r18 hc _) (cwV 0 hts gX7_digest_X7_cureNow rfl rfl rfl (by decide +kernel) ⟨Nat.le_of_ble_eq_true rfl, Nat.le_of_ble_eq_true rfl⟩) hK hN hP hD [0, 1, 2, 3, 4, 5, 6, 7] rfl (by decide) 0 6 rfl rfl rfl hl.1 rfl (Nat.le_of_ble_eq_true rfl) dX7_digest_127 ⟨Nat.le_of_ble_eq_true rfl, Nat.le_of_ble_eq_true rfl⟩) hP hD hS hA [0, 1, 2, 3, 4, 5, 6, 7] [] [0, 1, 2, 3, 4, 5, 6, 7] rfl rfl (by decide) (by decide) rfl (by decide) (fun H locs hP hD hS => ?_)
        clear hc
        refine lv_i2l (v := (r18).toInt64) hx hb dX7_digest_130 rfl ?_
        obtain ⟨r19, hc, hf⟩ := jx_bs hf
        refine jx_kv (wr := []) (ws2 := (wM a cI cL nl np nt nr nh ns nk ne nw na nf r11.1 r11.2 r19)) (jx_runV (As := [.long (r18).toInt64]) (rest := []) ⟨hx, hb, hml, hown, hts⟩ (c_X7_mix l D a cI cL nl np nt nr nh ns nk ne nw na nf r11.1 r11.2 k13 (r18).toInt64 r19 hc _) (cwV 1 hts gX7_digest_X7_mix rfl rfl rfl (by decide +kernel) ⟨Nat.le_of_ble_eq_true rfl, Nat.le_of_ble_eq_true rfl⟩) hK hN hP hD [0, 1, 2, 3, 4, 5, 6, 7] rfl (by decide) 0 6 rfl rfl rfl hl.1 rfl (Nat.le_of_ble_eq_true rfl) dX7_digest_131 ⟨Nat.le_of_ble_eq_true rfl, Nat.le_of_ble_eq_true rfl⟩) hP hD hS hA [0, 1, 2, 3, 4, 5, 6, 7] [] [0, 1, 2, 3, 4, 5, 6, 7] rfl rfl (by decide) (by decide) rfl (by decide) (fun H locs hP hD hS => ?_)
        clear hc
        refine lv_iconst (v := 0) hx hb dX7_digest_134 (by decide) ?_
        refine lv_istore_n (lv' := [(1, .int (0 : Int32)), (0, .ref (a 0))]) hx hb dX7_digest_135 rfl hl (by decide) rfl (fun ls hl => ?_)
        obtain ⟨k21, hf, hkk21⟩ := jx_bs hf
        have hXk21 : ∀ (H : Heap) (locs : List Loc) (ls : Array Slot), va_P D vwCl (wM a cI cL nl np nt nr nh ns nk ne nw na nf r11.1 r11.2 k21) H → va_D A (wM a cI cL nl np nt nr nh ns nk ne nw na nf r11.1 r11.2 k21) → va_S A s.heap H locs → lv_has ls 2 [(0, .ref (a 0))] → jx_Wl p l e wsX7_digest ({ frames := 7, cells := 0, slots := 0, locals := 159 }) s m [.ref (a 0)] below meth c D [(cI, .int), (cL, .long)] (res.1) (wM a cI cL nl np nt nr nh ns nk ne nw na nf res.2.1 res.2.2.1 res.2.2.2) A H locs (F0 m 161 ls []) := by
          clear hf hP hD hS hl
          intro H locs ls hP hD hS hl
          have hf := hkk21
          refine lv_iconst (v := 0) hx hb dX7_digest_161 (by decide) ?_
          refine lv_istore_n (lv' := [(1, .int (0 : Int32)), (0, .ref (a 0))]) hx hb dX7_digest_162 rfl hl (by decide) rfl (fun ls hl => ?_)
          obtain ⟨k25, hf, hkk25⟩ := jx_bs hf
          have hXk25 : ∀ (H : Heap) (locs : List Loc) (ls : Array Slot), va_P D vwCl (wM a cI cL nl np nt nr nh ns nk ne nw na nf k25.1 k25.2.1 k25.2.2) H → va_D A (wM a cI cL nl np nt nr nh ns nk ne nw na nf k25.1 k25.2.1 k25.2.2) → va_S A s.heap H locs → lv_has ls 2 [(0, .ref (a 0))] → jx_Wl p l e wsX7_digest ({ frames := 7, cells := 0, slots := 0, locals := 159 }) s m [.ref (a 0)] below meth c D [(cI, .int), (cL, .long)] (res.1) (wM a cI cL nl np nt nr nh ns nk ne nw na nf res.2.1 res.2.2.1 res.2.2.2) A H locs (F0 m 185 ls []) := by
            clear hf hP hD hS hl
            intro H locs ls hP hD hS hl
            have hf := hkk25
            refine lv_aload_n hx hb dX7_digest_185 rfl (lv_at hl 0 rfl) ?_
            refine va_get (D := D) (ci := 6) (v := .long k25.2.2) (C := RX7) (T := TX7) (N := 14) hx hb hts iw_X7_digest_X7 hown hK hP 0 rfl rfl 13 (by decide) (hts (.fieldLink RX7 152 "PassedDutiesModel" "h" "J") (by decide +kernel)) (fun _ h9 => h9) rfl dX7_digest_186 ?_
            have he := jx_eq hf
            subst he
            exact jx_retl hx hb hr hlocks rfl hK hP hD hS dX7_digest_189
          have hLk25 : ∀ (n : Nat) (s24 : (Int32 × Int32 × (Nat → Int32) × Int64)) (H : Heap) (locs : List Loc) (ls : Array Slot), jx_iter (pf_X7_digest_s5 nl nt nr nh ns nk ne) n s24 = some k25 → va_P D vwCl (wM a cI cL nl np nt nr nh ns nk ne nw na nf s24.2.1 s24.2.2.1 s24.2.2.2) H → va_D A (wM a cI cL nl np nt nr nh ns nk ne nw na nf s24.2.1 s24.2.2.1 s24.2.2.2) → va_S A s.heap H locs → lv_has ls 2 [(0, .ref (a 0)), (1, .int s24.1)] → jx_Wl p l e wsX7_digest ({ frames := 7, cells := 0, slots := 0, locals := 159 }) s m [.ref (a 0)] below meth c D [(cI, .int), (cL, .long)] (res.1) (wM a cI cL nl np nt nr nh ns nk ne nw na nf res.2.1 res.2.2.1 res.2.2.2) A H locs (F0 m 163 ls []) := by
            clear hf hP hD hS hl
            intro n
            induction n with
            | zero => intro s24 _ _ _ hf; cases hf
            | succ n ihk25 =>
              intro s24 H locs ls hf hP hD hS hl
              obtain ⟨q26, hf, hgk25⟩ := jx_bs hf
              refine lv_iload_n hx hb dX7_digest_163 rfl (lv_at hl 1 rfl) ?_
              refine lv_bipush (v := 8) hx hb dX7_digest_164 (by decide) ?_
              refine lv_icmp_ge (tgt := 185) hx hb dX7_digest_166 (by decide) (fun hq => ?_) (fun hq => ?_)
              · replace hf := jx_pos hq hf
                have he := jx_eq hf
                subst he
                have he : _ = k25 := jx_eq hgk25
                subst he
                exact hXk25 _ _ _ hP hD hS (lv_sub hl [0] rfl)
              · replace hf := jx_neg hq hf
                refine lv_aload_n hx hb dX7_digest_169 rfl (lv_at hl 0 rfl) ?_
                refine lv_aload_n hx hb dX7_digest_170 rfl (lv_at hl 0 rfl) ?_
                refine lv_iload_n hx hb dX7_digest_171 rfl (lv_at hl 1 rfl) ?_
                obtain ⟨r27, hc, hf⟩ := jx_bs hf
                refine jx_ki (wr := []) (ws2 := (wM a cI cL nl np nt nr nh ns nk ne nw na nf r27.2.1 r27.2.2 s24.2.2.2)) (jx_runV (As := [.int s24.1]) (rest := [.ref (a 0)]) ⟨hx, hb, hml, hown, hts⟩ (c_X7_howMany l D a cI cL nl np nt nr nh ns nk ne nw na nf s24.2.1 s24.2.2.1 s24.2.2.2 s24.1 r27 hc _) (cwV 1 hts gX7_digest_X7_howMany rfl rfl rfl (by decide +kernel) ⟨Nat.le_of_ble_eq_true rfl, Nat.le_of_ble_eq_true rfl⟩) hK hN hP hD [0, 1, 2, 3, 4, 5, 6, 7] rfl (by decide) 0 6 rfl rfl rfl hl.1 rfl (Nat.le_of_ble_eq_true rfl) dX7_digest_172 ⟨Nat.le_of_ble_eq_true rfl, Nat.le_of_ble_eq_true rfl⟩) hP hD hS hA [0, 1, 2, 3, 4, 5, 6, 7] [] [0, 1, 2, 3, 4, 5, 6, 7] rfl rfl (by decide) (by decide) rfl (by decide) (fun H locs hP hD hS => ?_)
                clear hc
                refine lv_i2l (v := (r27.1).toInt64) hx hb dX7_digest_175 rfl ?_
                obtain ⟨r28, hc, hf⟩ := jx_bs hf
                refine jx_kv (wr := []) (ws2 := (wM a cI cL nl np nt nr nh ns nk ne nw na nf r27.2.1 r27.2.2 r28)) (jx_runV (As := [.long (r27.1).toInt64]) (rest := []) ⟨hx, hb, hml, hown, hts⟩ (c_X7_mix l D a cI cL nl np nt nr nh ns nk ne nw na nf r27.2.1 r27.2.2 s24.2.2.2 (r27.1).toInt64 r28 hc _) (cwV 1 hts gX7_digest_X7_mix rfl rfl rfl (by decide +kernel) ⟨Nat.le_of_ble_eq_true rfl, Nat.le_of_ble_eq_true rfl⟩) hK hN hP hD [0, 1, 2, 3, 4, 5, 6, 7] rfl (by decide) 0 6 rfl rfl rfl hl.1 rfl (Nat.le_of_ble_eq_true rfl) dX7_digest_176 ⟨Nat.le_of_ble_eq_true rfl, Nat.le_of_ble_eq_true rfl⟩) hP hD hS hA [0, 1, 2, 3, 4, 5, 6, 7] [] [0, 1, 2, 3, 4, 5, 6, 7] rfl rfl (by decide) (by decide) rfl (by decide) (fun H locs hP hD hS => ?_)
                clear hc
                refine lv_iinc (v := (s24.1 + (1 : Int32))) (lv' := [(1, .int (s24.1 + (1 : Int32))), (0, .ref (a 0))]) hx hb dX7_digest_179 hl (k := 1) rfl rfl (by decide) rfl (fun ls hl => ?_)
                refine lv_goto (tgt := 163) hx hb dX7_digest_182 (by decide) ?_
                have he := jx_eq hf
                subst he
                exact ihk25 ((s24.1 + (1 : Int32)), r27.2.1, r27.2.2, r28) _ _ _ hgk25 hP hD hS (lv_sub hl [1, 0] rfl)
          exact hLk25 jx_F ((0 : Int32), r11.1, r11.2, k21) _ _ _ hf hP hD hS (lv_sub hl [1, 0] rfl)
        have hLk21 : ∀ (n : Nat) (s20 : (Int32 × Int64)) (H : Heap) (locs : List Loc) (ls : Array Slot), jx_iter (pf_X7_digest_s4 nl np) n s20 = some k21 → va_P D vwCl (wM a cI cL nl np nt nr nh ns nk ne nw na nf r11.1 r11.2 s20.2) H → va_D A (wM a cI cL nl np nt nr nh ns nk ne nw na nf r11.1 r11.2 s20.2) → va_S A s.heap H locs → lv_has ls 2 [(0, .ref (a 0)), (1, .int s20.1)] → jx_Wl p l e wsX7_digest ({ frames := 7, cells := 0, slots := 0, locals := 159 }) s m [.ref (a 0)] below meth c D [(cI, .int), (cL, .long)] (res.1) (wM a cI cL nl np nt nr nh ns nk ne nw na nf res.2.1 res.2.2.1 res.2.2.2) A H locs (F0 m 136 ls []) := by
          clear hf hP hD hS hl
          intro n
          induction n with
          | zero => intro s20 _ _ _ hf; cases hf
          | succ n ihk21 =>
            intro s20 H locs ls hf hP hD hS hl
            obtain ⟨q22, hf, hgk21⟩ := jx_bs hf
            refine lv_iload_n hx hb dX7_digest_136 rfl (lv_at hl 1 rfl) ?_
            refine lv_aload_n hx hb dX7_digest_137 rfl (lv_at hl 0 rfl) ?_
            refine va_get (D := D) (ci := 6) (v := .int nl) (C := RX7) (T := TX7) (N := 14) hx hb hts iw_X7_digest_X7 hown hK hP 0 rfl rfl 0 (by decide) (hts (.fieldLink RX7 35 "PassedDutiesModel" "pageLength" "I") (by decide +kernel)) (fun _ h9 => h9) rfl dX7_digest_138 ?_
            refine lv_icmp_ge (tgt := 161) hx hb dX7_digest_141 (by decide) (fun hq => ?_) (fun hq => ?_)
            · replace hf := jx_pos hq hf
              have he := jx_eq hf
              subst he
              have he : _ = k21 := jx_eq hgk21
              subst he
              exact hXk21 _ _ _ hP hD hS (lv_sub hl [0] rfl)
            · replace hf := jx_neg hq hf
              refine lv_aload_n hx hb dX7_digest_144 rfl (lv_at hl 0 rfl) ?_
              refine lv_aload_n hx hb dX7_digest_145 rfl (lv_at hl 0 rfl) ?_
              refine va_get (D := D) (ci := 6) (v := .ref (a 1)) (C := RX7) (T := TX7) (N := 14) hx hb hts iw_X7_digest_X7 hown hK hP 0 rfl rfl 1 (by decide) (hts (.fieldLink RX7 7 "PassedDutiesModel" "page" "[I") (by decide +kernel)) (fun _ h9 => h9) rfl dX7_digest_146 ?_
              refine lv_iload_n hx hb dX7_digest_149 rfl (lv_at hl 1 rfl) ?_
              obtain ⟨hi, hf⟩ := jx_gs hf
              refine va_iald hx hb hK hP 1 0 rfl rfl (jx_ip hi) dX7_digest_150 ?_
              clear hi
              refine lv_i2l (v := ((np (s20.1).toNatClampNeg)).toInt64) hx hb dX7_digest_151 rfl ?_
              obtain ⟨r23, hc, hf⟩ := jx_bs hf
              refine jx_kv (wr := []) (ws2 := (wM a cI cL nl np nt nr nh ns nk ne nw na nf r11.1 r11.2 r23)) (jx_runV (As := [.long ((np (s20.1).toNatClampNeg)).toInt64]) (rest := []) ⟨hx, hb, hml, hown, hts⟩ (c_X7_mix l D a cI cL nl np nt nr nh ns nk ne nw na nf r11.1 r11.2 s20.2 ((np (s20.1).toNatClampNeg)).toInt64 r23 hc _) (cwV 1 hts gX7_digest_X7_mix rfl rfl rfl (by decide +kernel) ⟨Nat.le_of_ble_eq_true rfl, Nat.le_of_ble_eq_true rfl⟩) hK hN hP hD [0, 1, 2, 3, 4, 5, 6, 7] rfl (by decide) 0 6 rfl rfl rfl hl.1 rfl (Nat.le_of_ble_eq_true rfl) dX7_digest_152 ⟨Nat.le_of_ble_eq_true rfl, Nat.le_of_ble_eq_true rfl⟩) hP hD hS hA [0, 1, 2, 3, 4, 5, 6, 7] [] [0, 1, 2, 3, 4, 5, 6, 7] rfl rfl (by decide) (by decide) rfl (by decide) (fun H locs hP hD hS => ?_)
              clear hc
              refine lv_iinc (v := (s20.1 + (1 : Int32))) (lv' := [(1, .int (s20.1 + (1 : Int32))), (0, .ref (a 0))]) hx hb dX7_digest_155 hl (k := 1) rfl rfl (by decide) rfl (fun ls hl => ?_)
              refine lv_goto (tgt := 136) hx hb dX7_digest_158 (by decide) ?_
              have he := jx_eq hf
              subst he
              exact ihk21 ((s20.1 + (1 : Int32)), r23) _ _ _ hgk21 hP hD hS (lv_sub hl [1, 0] rfl)
        exact hLk21 jx_F ((0 : Int32), r19) _ _ _ hf hP hD hS (lv_sub hl [1, 0] rfl)
      have hLk13 : ∀ (n : Nat) (s12 : (Int32 × Int64)) (H : Heap) (locs : List Loc) (ls : Array Slot), jx_iter (pf_X7_digest_s3 nr nh ns nk r11) n s12 = some k13 → va_P D vwCl (wM a cI cL nl np nt nr nh ns nk ne nw na nf r11.1 r11.2 s12.2) H → va_D A (wM a cI cL nl np nt nr nh ns nk ne nw na nf r11.1 r11.2 s12.2) → va_S A s.heap H locs → lv_has ls 2 [(0, .ref (a 0)), (1, .int s12.1)] → jx_Wl p l e wsX7_digest ({ frames := 7, cells := 0, slots := 0, locals := 159 }) s m [.ref (a 0)] below meth c D [(cI, .int), (cL, .long)] (res.1) (wM a cI cL nl np nt nr nh ns nk ne nw na nf res.2.1 res.2.2.1 res.2.2.2) A H locs (F0 m 73 ls []) := by
        clear hf hP hD hS hl
        intro n
        induction n with
        | zero => intro s12 _ _ _ hf; cases hf
        | succ n ihk13 =>
          intro s12 H locs ls hf hP hD hS hl
          obtain ⟨q14, hf, hgk13⟩ := jx_bs hf
          refine lv_iload_n hx hb dX7_digest_73 rfl (lv_at hl 1 rfl) ?_
          refine lv_aload_n hx hb dX7_digest_74 rfl (lv_at hl 0 rfl) ?_
          refine va_get (D := D) (ci := 6) (v := .int r11.1) (C := RX7) (T := TX7) (N := 14) hx hb hts iw_X7_digest_X7 hown hK hP 0 rfl rfl 11 (by decide) (hts (.fieldLink RX7 119 "PassedDutiesModel" "clashes" "I") (by decide +kernel)) (fun _ h9 => h9) rfl dX7_digest_75 ?_
          refine lv_icmp_ge (tgt := 125) hx hb dX7_digest_78 (by decide) (fun hq => ?_) (fun hq => ?_)
          · replace hf := jx_pos hq hf
            have he := jx_eq hf
            subst he
            have he : _ = k13 := jx_eq hgk13
            subst he
            exact hXk13 _ _ _ hP hD hS (lv_sub hl [0] rfl)
          · replace hf := jx_neg hq hf
            refine lv_aload_n hx hb dX7_digest_81 rfl (lv_at hl 0 rfl) ?_
            refine lv_aload_n hx hb dX7_digest_82 rfl (lv_at hl 0 rfl) ?_
            refine va_get (D := D) (ci := 6) (v := .ref (a 7)) (C := RX7) (T := TX7) (N := 14) hx hb hts iw_X7_digest_X7 hown hK hP 0 rfl rfl 12 (by decide) (hts (.fieldLink RX7 28 "PassedDutiesModel" "clashAt" "[I") (by decide +kernel)) (fun _ h9 => h9) rfl dX7_digest_83 ?_
            refine lv_iload_n hx hb dX7_digest_86 rfl (lv_at hl 1 rfl) ?_
            obtain ⟨hi, hf⟩ := jx_gs hf
            refine va_iald hx hb hK hP 7 0 rfl rfl (jx_ip hi) dX7_digest_87 ?_
            clear hi
            refine lv_i2l (v := ((r11.2 (s12.1).toNatClampNeg)).toInt64) hx hb dX7_digest_88 rfl ?_
            obtain ⟨r15, hc, hf⟩ := jx_bs hf
            refine jx_kv (wr := []) (ws2 := (wM a cI cL nl np nt nr nh ns nk ne nw na nf r11.1 r11.2 r15)) (jx_runV (As := [.long ((r11.2 (s12.1).toNatClampNeg)).toInt64]) (rest := []) ⟨hx, hb, hml, hown, hts⟩ (c_X7_mix l D a cI cL nl np nt nr nh ns nk ne nw na nf r11.1 r11.2 s12.2 ((r11.2 (s12.1).toNatClampNeg)).toInt64 r15 hc _) (cwV 1 hts gX7_digest_X7_mix rfl rfl rfl (by decide +kernel) ⟨Nat.le_of_ble_eq_true rfl, Nat.le_of_ble_eq_true rfl⟩) hK hN hP hD [0, 1, 2, 3, 4, 5, 6, 7] rfl (by decide) 0 6 rfl rfl rfl hl.1 rfl (Nat.le_of_ble_eq_true rfl) dX7_digest_89 ⟨Nat.le_of_ble_eq_true rfl, Nat.le_of_ble_eq_true rfl⟩) hP hD hS hA [0, 1, 2, 3, 4, 5, 6, 7] [] [0, 1, 2, 3, 4, 5, 6, 7] rfl rfl (by decide) (by decide) rfl (by decide) (fun H locs hP hD hS => ?_)
            clear hc
            refine lv_aload_n hx hb dX7_digest_92 rfl (lv_at hl 0 rfl) ?_
            refine lv_aload_n hx hb dX7_digest_93 rfl (lv_at hl 0 rfl) ?_
            refine lv_aload_n hx hb dX7_digest_94 rfl (lv_at hl 0 rfl) ?_
            refine va_get (D := D) (ci := 6) (v := .ref (a 7)) (C := RX7) (T := TX7) (N := 14) hx hb hts iw_X7_digest_X7 hown hK hP 0 rfl rfl 12 (by decide) (hts (.fieldLink RX7 28 "PassedDutiesModel" "clashAt" "[I") (by decide +kernel)) (fun _ h9 => h9) rfl dX7_digest_95 ?_
            refine lv_iload_n hx hb dX7_digest_98 rfl (lv_at hl 1 rfl) ?_
            obtain ⟨hi, hf⟩ := jx_gs hf
            refine va_iald hx hb hK hP 7 0 rfl rfl (jx_ip hi) dX7_digest_99 ?_
            clear hi
            refine lv_bipush (v := 6) hx hb dX7_digest_100 (by decide) ?_
            refine lv_idiv hx hb dX7_digest_102 (by decide) ?_
            refine lv_aload_n hx hb dX7_digest_103 rfl (lv_at hl 0 rfl) ?_
            refine va_get (D := D) (ci := 6) (v := .ref (a 7)) (C := RX7) (T := TX7) (N := 14) hx hb hts iw_X7_digest_X7 hown hK hP 0 rfl rfl 12 (by decide) (hts (.fieldLink RX7 28 "PassedDutiesModel" "clashAt" "[I") (by decide +kernel)) (fun _ h9 => h9) rfl dX7_digest_104 ?_
            refine lv_iload_n hx hb dX7_digest_107 rfl (lv_at hl 1 rfl) ?_
            obtain ⟨hi, hf⟩ := jx_gs hf
            refine va_iald hx hb hK hP 7 0 rfl rfl (jx_ip hi) dX7_digest_108 ?_
            clear hi
            refine lv_bipush (v := 6) hx hb dX7_digest_109 (by decide) ?_
            refine lv_irem hx hb dX7_digest_111 (by decide) ?_
            obtain ⟨r16, hc, hf⟩ := jx_bs hf
            refine jx_ki (wr := []) (ws2 := (wM a cI cL nl np nt nr nh ns nk ne nw na nf r11.1 r11.2 r15)) (jx_runV (As := [.int ((r11.2 (s12.1).toNatClampNeg) / (6 : Int32)), .int ((r11.2 (s12.1).toNatClampNeg) - (r11.2 (s12.1).toNatClampNeg) / (6 : Int32) * (6 : Int32))]) (rest := [.ref (a 0)]) ⟨hx, hb, hml, hown, hts⟩ (c_X7_causeNow l D a cI cL nl np nt nr nh ns nk ne nw na nf r11.1 r11.2 r15 ((r11.2 (s12.1).toNatClampNeg) / (6 : Int32)) ((r11.2 (s12.1).toNatClampNeg) - (r11.2 (s12.1).toNatClampNeg) / (6 : Int32) * (6 : Int32)) r16 hc _) (cwV 2 hts gX7_digest_X7_causeNow rfl rfl rfl (by decide +kernel) ⟨Nat.le_of_ble_eq_true rfl, Nat.le_of_ble_eq_true rfl⟩) hK hN hP hD [0, 1, 2, 3, 4, 5, 6, 7] rfl (by decide) 0 6 rfl rfl rfl hl.1 rfl (Nat.le_of_ble_eq_true rfl) dX7_digest_112 ⟨Nat.le_of_ble_eq_true rfl, Nat.le_of_ble_eq_true rfl⟩) hP hD hS hA [0, 1, 2, 3, 4, 5, 6, 7] [] [0, 1, 2, 3, 4, 5, 6, 7] rfl rfl (by decide) (by decide) rfl (by decide) (fun H locs hP hD hS => ?_)
            clear hc
            refine lv_i2l (v := (r16).toInt64) hx hb dX7_digest_115 rfl ?_
            obtain ⟨r17, hc, hf⟩ := jx_bs hf
            refine jx_kv (wr := []) (ws2 := (wM a cI cL nl np nt nr nh ns nk ne nw na nf r11.1 r11.2 r17)) (jx_runV (As := [.long (r16).toInt64]) (rest := []) ⟨hx, hb, hml, hown, hts⟩ (c_X7_mix l D a cI cL nl np nt nr nh ns nk ne nw na nf r11.1 r11.2 r15 (r16).toInt64 r17 hc _) (cwV 1 hts gX7_digest_X7_mix rfl rfl rfl (by decide +kernel) ⟨Nat.le_of_ble_eq_true rfl, Nat.le_of_ble_eq_true rfl⟩) hK hN hP hD [0, 1, 2, 3, 4, 5, 6, 7] rfl (by decide) 0 6 rfl rfl rfl hl.1 rfl (Nat.le_of_ble_eq_true rfl) dX7_digest_116 ⟨Nat.le_of_ble_eq_true rfl, Nat.le_of_ble_eq_true rfl⟩) hP hD hS hA [0, 1, 2, 3, 4, 5, 6, 7] [] [0, 1, 2, 3, 4, 5, 6, 7] rfl rfl (by decide) (by decide) rfl (by decide) (fun H locs hP hD hS => ?_)
            clear hc
            refine lv_iinc (v := (s12.1 + (1 : Int32))) (lv' := [(1, .int (s12.1 + (1 : Int32))), (0, .ref (a 0))]) hx hb dX7_digest_119 hl (k := 1) rfl rfl (by decide) rfl (fun ls hl => ?_)
            refine lv_goto (tgt := 73) hx hb dX7_digest_122 (by decide) ?_
            have he := jx_eq hf
            subst he
            exact ihk13 ((s12.1 + (1 : Int32)), r17) _ _ _ hgk13 hP hD hS (lv_sub hl [1, 0] rfl)
      exact hLk13 jx_F ((0 : Int32), k6) _ _ _ hf hP hD hS (lv_sub hl [1, 0] rfl)
    have hLk6 : ∀ (n : Nat) (s5 : (Int32 × Int64)) (H : Heap) (locs : List Loc) (ls : Array Slot), jx_iter (pf_X7_digest_s2 nr nh ns nk) n s5 = some k6 → va_P D vwCl (wM a cI cL nl np nt nr nh ns nk ne nw na nf nc ng s5.2) H → va_D A (wM a cI cL nl np nt nr nh ns nk ne nw na nf nc ng s5.2) → va_S A s.heap H locs → lv_has ls 2 [(0, .ref (a 0)), (1, .int s5.1)] → jx_Wl p l e wsX7_digest ({ frames := 7, cells := 0, slots := 0, locals := 159 }) s m [.ref (a 0)] below meth c D [(cI, .int), (cL, .long)] (res.1) (wM a cI cL nl np nt nr nh ns nk ne nw na nf res.2.1 res.2.2.1 res.2.2.2) A H locs (F0 m 39 ls []) := by
      clear hf hP hD hS hl
      intro n
      induction n with
      | zero => intro s5 _ _ _ hf; cases hf
      | succ n ihk6 =>
        intro s5 H locs ls hf hP hD hS hl
        obtain ⟨q7, hf, hgk6⟩ := jx_bs hf
        refine lv_iload_n hx hb dX7_digest_39 rfl (lv_at hl 1 rfl) ?_
        refine lv_bipush (v := 8) hx hb dX7_digest_40 (by decide) ?_
        refine lv_icmp_ge (tgt := 67) hx hb dX7_digest_42 (by decide) (fun hq => ?_) (fun hq => ?_)
        · replace hf := jx_pos hq hf
          have he := jx_eq hf
          subst he
          have he : _ = k6 := jx_eq hgk6
          subst he
          exact hXk6 _ _ _ hP hD hS (lv_sub hl [0] rfl)
        · replace hf := jx_neg hq hf
          refine lv_aload_n hx hb dX7_digest_45 rfl (lv_at hl 0 rfl) ?_
          refine va_get (D := D) (ci := 6) (v := .int nh) (C := RX7) (T := TX7) (N := 14) hx hb hts iw_X7_digest_X7 hown hK hP 0 rfl rfl 4 (by decide) (hts (.fieldLink RX7 65 "PassedDutiesModel" "there" "I") (by decide +kernel)) (fun _ h9 => h9) rfl dX7_digest_46 ?_
          refine lv_iload_n hx hb dX7_digest_49 rfl (lv_at hl 1 rfl) ?_
          obtain ⟨r8, hc, hf⟩ := jx_bs hf
          refine jx_ki (wr := [((a 0), .inr (6, [.int nl, .ref (a 1), .int nt, .ref (a 2), .int nh, .ref (a 3), .ref (a 4), .int ne, .int nw, .ref (a 5), .ref (a 6), .int nc, .ref (a 7), .long s5.2])), ((a 1), .inl (cI, 24, .inl np)), ((a 2), .inl (cI, 108, .inl nr)), ((a 3), .inl (cI, 8, .inl ns)), ((a 4), .inl (cI, 64, .inl nk)), ((a 5), .inl (cI, 8, .inl na)), ((a 6), .inl (cI, 8, .inl nf)), ((a 7), .inl (cI, 48, .inl ng))]) (ws2 := (wM a cI cL nl np nt nr nh ns nk ne nw na nf nc ng s5.2)) (jx_runS (As := [.int nh, .int s5.1]) (rest := []) ⟨hx, hb, hml, hown, hts⟩ (c_X7_has l D a cI cL nh s5.1 r8 hc _) (va_cwS 2 hts gX7_digest_X7_has rfl rfl rfl (by decide +kernel) ⟨Nat.le_of_ble_eq_true rfl, Nat.le_of_ble_eq_true rfl⟩) hK hN hP hD [] rfl (by decide) rfl hl.1 rfl (Nat.le_of_ble_eq_true rfl) dX7_digest_50 ⟨Nat.le_of_ble_eq_true rfl, Nat.le_of_ble_eq_true rfl⟩) hP hD hS hA [] [0, 1, 2, 3, 4, 5, 6, 7] [0, 1, 2, 3, 4, 5, 6, 7] rfl rfl (by decide) (by decide) rfl (by decide) (fun H locs hP hD hS => ?_)
          clear hc
          obtain ⟨j9, hf, hkj9⟩ := jx_bs hf
          have hJj9 : ∀ (H : Heap) (locs : List Loc) (ls : Array Slot), va_P D vwCl (wM a cI cL nl np nt nr nh ns nk ne nw na nf nc ng j9) H → va_D A (wM a cI cL nl np nt nr nh ns nk ne nw na nf nc ng j9) → va_S A s.heap H locs → lv_has ls 2 [(0, .ref (a 0)), (1, .int s5.1)] → jx_Wl p l e wsX7_digest ({ frames := 7, cells := 0, slots := 0, locals := 159 }) s m [.ref (a 0)] below meth c D [(cI, .int), (cL, .long)] (res.1) (wM a cI cL nl np nt nr nh ns nk ne nw na nf res.2.1 res.2.2.1 res.2.2.2) A H locs (F0 m 61 ls []) := by
            clear hf hP hD hS hl
            intro H locs ls hP hD hS hl
            have hf := hkj9
            refine lv_iinc (v := (s5.1 + (1 : Int32))) (lv' := [(1, .int (s5.1 + (1 : Int32))), (0, .ref (a 0))]) hx hb dX7_digest_61 hl (k := 1) rfl rfl (by decide) rfl (fun ls hl => ?_)
            refine lv_goto (tgt := 39) hx hb dX7_digest_64 (by decide) ?_
            have he := jx_eq hf
            subst he
            exact ihk6 ((s5.1 + (1 : Int32)), j9) _ _ _ hgk6 hP hD hS (lv_sub hl [1, 0] rfl)
          refine lv_if_eq (tgt := 61) hx hb dX7_digest_53 (by decide) (fun hq => ?_) (fun hq => ?_)
          · replace hf := jx_pos hq hf
            have he := jx_eq hf
            subst he
            exact hJj9 _ _ _ hP hD hS (lv_sub hl [0, 1] rfl)
          · replace hf := jx_neg hq hf
            refine lv_aload_n hx hb dX7_digest_56 rfl (lv_at hl 0 rfl) ?_
            refine lv_iload_n hx hb dX7_digest_57 rfl (lv_at hl 1 rfl) ?_
            obtain ⟨r10, hc, hf⟩ := jx_bs hf
            refine jx_kv (wr := []) (ws2 := (wM a cI cL nl np nt nr nh ns nk ne nw na nf nc ng r10)) (jx_runV (As := [.int s5.1]) (rest := []) ⟨hx, hb, hml, hown, hts⟩ (c_X7_mixPart l D a cI cL nl np nt nr nh ns nk ne nw na nf nc ng s5.2 s5.1 r10 hc _) (cwV 1 hts gX7_digest_X7_mixPart rfl rfl rfl (by decide +kernel) ⟨Nat.le_of_ble_eq_true rfl, Nat.le_of_ble_eq_true rfl⟩) hK hN hP hD [0, 1, 2, 3, 4, 5, 6, 7] rfl (by decide) 0 6 rfl rfl rfl hl.1 rfl (Nat.le_of_ble_eq_true rfl) dX7_digest_58 ⟨Nat.le_of_ble_eq_true rfl, Nat.le_of_ble_eq_true rfl⟩) hP hD hS hA [0, 1, 2, 3, 4, 5, 6, 7] [] [0, 1, 2, 3, 4, 5, 6, 7] rfl rfl (by decide) (by decide) rfl (by decide) (fun H locs hP hD hS => ?_)
            clear hc
            have he := jx_eq hf
            subst he
            exact hJj9 _ _ _ hP hD hS (lv_sub hl [0, 1] rfl)
    exact hLk6 jx_F ((0 : Int32), k2) _ _ _ hf hP hD hS (lv_sub hl [1, 0] rfl)
  have hLk2 : ∀ (n : Nat) (s1 : (Int32 × Int64)) (H : Heap) (locs : List Loc) (ls : Array Slot), jx_iter (pf_X7_digest_s1 nt nr) n s1 = some k2 → va_P D vwCl (wM a cI cL nl np nt nr nh ns nk ne nw na nf nc ng s1.2) H → va_D A (wM a cI cL nl np nt nr nh ns nk ne nw na nf nc ng s1.2) → va_S A s.heap H locs → lv_has ls 2 [(0, .ref (a 0)), (1, .int s1.1)] → jx_Wl p l e wsX7_digest ({ frames := 7, cells := 0, slots := 0, locals := 159 }) s m [.ref (a 0)] below meth c D [(cI, .int), (cL, .long)] (res.1) (wM a cI cL nl np nt nr nh ns nk ne nw na nf res.2.1 res.2.2.1 res.2.2.2) A H locs (F0 m 9 ls []) := by
    clear hf hP hD hS hl
    intro n
    induction n with
    | zero => intro s1 _ _ _ hf; cases hf
    | succ n ihk2 =>
      intro s1 H locs ls hf hP hD hS hl
      obtain ⟨q3, hf, hgk2⟩ := jx_bs hf
      refine lv_iload_n hx hb dX7_digest_9 rfl (lv_at hl 1 rfl) ?_
      refine lv_bipush (v := 12) hx hb dX7_digest_10 (by decide) ?_
      refine lv_aload_n hx hb dX7_digest_12 rfl (lv_at hl 0 rfl) ?_
      refine va_get (D := D) (ci := 6) (v := .int nt) (C := RX7) (T := TX7) (N := 14) hx hb hts iw_X7_digest_X7 hown hK hP 0 rfl rfl 2 (by decide) (hts (.fieldLink RX7 47 "PassedDutiesModel" "termsMany" "I") (by decide +kernel)) (fun _ h9 => h9) rfl dX7_digest_13 ?_
      refine lv_imul hx hb dX7_digest_16 ?_
      refine lv_icmp_ge (tgt := 37) hx hb dX7_digest_17 (by decide) (fun hq => ?_) (fun hq => ?_)
      · replace hf := jx_pos hq hf
        have he := jx_eq hf
        subst he
        have he : _ = k2 := jx_eq hgk2
        subst he
        exact hXk2 _ _ _ hP hD hS (lv_sub hl [0] rfl)
      · replace hf := jx_neg hq hf
        refine lv_aload_n hx hb dX7_digest_20 rfl (lv_at hl 0 rfl) ?_
        refine lv_aload_n hx hb dX7_digest_21 rfl (lv_at hl 0 rfl) ?_
        refine va_get (D := D) (ci := 6) (v := .ref (a 2)) (C := RX7) (T := TX7) (N := 14) hx hb hts iw_X7_digest_X7 hown hK hP 0 rfl rfl 3 (by decide) (hts (.fieldLink RX7 13 "PassedDutiesModel" "reaches" "[I") (by decide +kernel)) (fun _ h9 => h9) rfl dX7_digest_22 ?_
        refine lv_iload_n hx hb dX7_digest_25 rfl (lv_at hl 1 rfl) ?_
        obtain ⟨hi, hf⟩ := jx_gs hf
        refine va_iald hx hb hK hP 2 0 rfl rfl (jx_ip hi) dX7_digest_26 ?_
        clear hi
        refine lv_i2l (v := ((nr (s1.1).toNatClampNeg)).toInt64) hx hb dX7_digest_27 rfl ?_
        obtain ⟨r4, hc, hf⟩ := jx_bs hf
        refine jx_kv (wr := []) (ws2 := (wM a cI cL nl np nt nr nh ns nk ne nw na nf nc ng r4)) (jx_runV (As := [.long ((nr (s1.1).toNatClampNeg)).toInt64]) (rest := []) ⟨hx, hb, hml, hown, hts⟩ (c_X7_mix l D a cI cL nl np nt nr nh ns nk ne nw na nf nc ng s1.2 ((nr (s1.1).toNatClampNeg)).toInt64 r4 hc _) (cwV 1 hts gX7_digest_X7_mix rfl rfl rfl (by decide +kernel) ⟨Nat.le_of_ble_eq_true rfl, Nat.le_of_ble_eq_true rfl⟩) hK hN hP hD [0, 1, 2, 3, 4, 5, 6, 7] rfl (by decide) 0 6 rfl rfl rfl hl.1 rfl (Nat.le_of_ble_eq_true rfl) dX7_digest_28 ⟨Nat.le_of_ble_eq_true rfl, Nat.le_of_ble_eq_true rfl⟩) hP hD hS hA [0, 1, 2, 3, 4, 5, 6, 7] [] [0, 1, 2, 3, 4, 5, 6, 7] rfl rfl (by decide) (by decide) rfl (by decide) (fun H locs hP hD hS => ?_)
        clear hc
        refine lv_iinc (v := (s1.1 + (1 : Int32))) (lv' := [(1, .int (s1.1 + (1 : Int32))), (0, .ref (a 0))]) hx hb dX7_digest_31 hl (k := 1) rfl rfl (by decide) rfl (fun ls hl => ?_)
        refine lv_goto (tgt := 9) hx hb dX7_digest_34 (by decide) ?_
        have he := jx_eq hf
        subst he
        exact ihk2 ((s1.1 + (1 : Int32)), r4) _ _ _ hgk2 hP hD hS (lv_sub hl [1, 0] rfl)
  exact hLk2 jx_F ((0 : Int32), (1697 : Int64)) _ _ _ hf hP hD hS (lv_sub hl [1, 0] rfl)
set_option maxHeartbeats 4000000 in
set_option maxRecDepth 100000 in
theorem c_X7_itemOf (l : Launch) (D : va_G) (a : Nat → Nat) (cI cL : ClassId) (p0 : Int32) (res : Int32) (hf : pf_X7_itemOf p0 = some res) : jMi l yX7_itemOf wsX7_itemOf ({ frames := 1, cells := 0, slots := 0, locals := 22 }) D [(cI, .int), (cL, .long)] [.int p0] (wE a cI cL) res (wE a cI cL) := by
  intro sz
  refine Met.ofW (cc := cX7_itemOf) (maxL := 1) (ret := (some .int)) (by decide) rfl ?_
  intro p e s m args below meth c s₁ B hml hv
  obtain ⟨rfl, hsz, hP, hK, hD0, hN⟩ := hv
  have hx := B.exec
  have hb := B.bytes
  have hr := B.returns
  have hts := atoms_spec (ws := wsX7_itemOf) B.pre
  have hown : s.vm.findClass RX7 = some m.cls := findClass_of_methodNamed B.named
  have hlocks := B.notSynchronized
  subst hsz
  have hD := hD0.self (sz := s.heap.size)
  generalize hAe : va_A (wE a cI cL) s.heap.size = A at hD ⊢
  have hA : ∀ q : Nat, s.heap.size ≤ q → A q := fun q h => by rw [← hAe]; exact Or.inr h
  have hS : va_S A s.heap s.heap [] := va_S.rf
  have hl := lv_entry ([.int p0]) (n := 1) (Nat.le_of_ble_eq_true rfl)
  rw [lg_entry_eq]
  generalize (lg_sl ([.int p0]) ++ List.replicate (1 - (lg_sl ([.int p0])).length) Slot.unset).toArray = ls at hl ⊢
  have hl : lv_has ls 1 [(0, .int p0)] := hl
  have hf : pf_X7_itemOf p0 = some res := hf
  refine lv_iload_n hx hb dX7_itemOf_0 rfl (lv_at hl 0 rfl) ?_
  refine lv_bipush (v := 112) hx hb dX7_itemOf_1 (by decide) ?_
  refine lv_bipush (v := 117) hx hb dX7_itemOf_3 (by decide) ?_
  obtain ⟨r1, hc, hf⟩ := jx_bs hf
  refine jx_ki (wr := []) (ws2 := (wE a cI cL)) (jx_runS (As := [.int p0, .int (112 : Int32), .int (117 : Int32)]) (rest := []) ⟨hx, hb, hml, hown, hts⟩ (c_X7_within l D a cI cL p0 (112 : Int32) (117 : Int32) r1 hc _) (va_cwS 3 hts gX7_itemOf_X7_within rfl rfl rfl (by decide +kernel) ⟨Nat.le_of_ble_eq_true rfl, Nat.le_of_ble_eq_true rfl⟩) hK hN hP hD [] rfl (by decide) rfl hl.1 rfl (Nat.le_of_ble_eq_true rfl) dX7_itemOf_5 ⟨Nat.le_of_ble_eq_true rfl, Nat.le_of_ble_eq_true rfl⟩) hP hD hS hA [] [] [] rfl rfl (by decide) (by decide) rfl (by decide) (fun H locs hP hD hS => ?_)
  clear hc
  refine lv_if_eq (tgt := 18) hx hb dX7_itemOf_8 (by decide) (fun hq => ?_) (fun hq => ?_)
  · replace hf := jx_pos hq hf
    refine lv_iload_n hx hb dX7_itemOf_18 rfl (lv_at hl 0 rfl) ?_
    refine lv_bipush (v := 80) hx hb dX7_itemOf_19 (by decide) ?_
    refine lv_bipush (v := 85) hx hb dX7_itemOf_21 (by decide) ?_
    obtain ⟨r2, hc, hf⟩ := jx_bs hf
    refine jx_ki (wr := []) (ws2 := (wE a cI cL)) (jx_runS (As := [.int p0, .int (80 : Int32), .int (85 : Int32)]) (rest := []) ⟨hx, hb, hml, hown, hts⟩ (c_X7_within l D a cI cL p0 (80 : Int32) (85 : Int32) r2 hc _) (va_cwS 3 hts gX7_itemOf_X7_within rfl rfl rfl (by decide +kernel) ⟨Nat.le_of_ble_eq_true rfl, Nat.le_of_ble_eq_true rfl⟩) hK hN hP hD [] rfl (by decide) rfl hl.1 rfl (Nat.le_of_ble_eq_true rfl) dX7_itemOf_23 ⟨Nat.le_of_ble_eq_true rfl, Nat.le_of_ble_eq_true rfl⟩) hP hD hS hA [] [] [] rfl rfl (by decide) (by decide) rfl (by decide) (fun H locs hP hD hS => ?_)
    clear hc
    refine lv_if_eq (tgt := 39) hx hb dX7_itemOf_26 (by decide) (fun hq => ?_) (fun hq => ?_)
    · replace hf := jx_pos hq hf
      refine lv_iconst (v := -1) hx hb dX7_itemOf_39 (by decide) ?_
      have he := jx_eq hf
      subst he
      exact jx_reti hx hb hr hlocks rfl hK hP hD hS dX7_itemOf_40
    · replace hf := jx_neg hq hf
      refine lv_iload_n hx hb dX7_itemOf_29 rfl (lv_at hl 0 rfl) ?_
      refine lv_bipush (v := 80) hx hb dX7_itemOf_30 (by decide) ?_
      refine lv_isub hx hb dX7_itemOf_32 ?_
      refine lv_bipush (v := 6) hx hb dX7_itemOf_33 (by decide) ?_
      refine lv_iadd hx hb dX7_itemOf_35 ?_
      refine lv_goto (tgt := 40) hx hb dX7_itemOf_36 (by decide) ?_
      have he := jx_eq hf
      subst he
      exact jx_reti hx hb hr hlocks rfl hK hP hD hS dX7_itemOf_40
  · replace hf := jx_neg hq hf
    refine lv_iload_n hx hb dX7_itemOf_11 rfl (lv_at hl 0 rfl) ?_
    refine lv_bipush (v := 112) hx hb dX7_itemOf_12 (by decide) ?_
    refine lv_isub hx hb dX7_itemOf_14 ?_
    refine lv_goto (tgt := 40) hx hb dX7_itemOf_15 (by decide) ?_
    have he := jx_eq hf
    subst he
    exact jx_reti hx hb hr hlocks rfl hK hP hD hS dX7_itemOf_40
theorem iw_X7_readPage_X7 : ∀ w ∈ wsX70, w ∈ wsX7_readPage := by decide +kernel
set_option maxHeartbeats 4000000 in
set_option maxRecDepth 100000 in
theorem c_X7_readPage (l : Launch) (D : va_G) (a : Nat → Nat) (cI cL : ClassId) (nl : Int32) (np : (Nat → Int32)) (nt : Int32) (nr : (Nat → Int32)) (nh : Int32) (ns : (Nat → Int32)) (nk : (Nat → Int32)) (ne : Int32) (nw : Int32) (na : (Nat → Int32)) (nf : (Nat → Int32)) (nc : Int32) (ng : (Nat → Int32)) (nx : Int64) (res : (Int32 × (Nat → Int32))) (hf : pf_X7_readPage nl np nr = some res) : jMi l yX7_readPage wsX7_readPage ({ frames := 2, cells := 0, slots := 0, locals := 42 }) D [(cI, .int), (cL, .long)] [.ref (a 0)] (wM a cI cL nl np nt nr nh ns nk ne nw na nf nc ng nx) res.1 (wM a cI cL nl np nt res.2 nh ns nk ne nw na nf nc ng nx) := by
  intro sz
  refine Met.ofW (cc := cX7_readPage) (maxL := 6) (ret := (some .int)) (by decide) rfl ?_
  intro p e s m args below meth c s₁ B hml hv
  obtain ⟨rfl, hsz, hP, hK, hD0, hN⟩ := hv
  have hx := B.exec
  have hb := B.bytes
  have hr := B.returns
  have hts := atoms_spec (ws := wsX7_readPage) B.pre
  have hown : s.vm.findClass RX7 = some m.cls := findClass_of_methodNamed B.named
  have hlocks := B.notSynchronized
  subst hsz
  have hD := hD0.self (sz := s.heap.size)
  generalize hAe : va_A (wM a cI cL nl np nt nr nh ns nk ne nw na nf nc ng nx) s.heap.size = A at hD ⊢
  have hA : ∀ q : Nat, s.heap.size ≤ q → A q := fun q h => by rw [← hAe]; exact Or.inr h
  have hS : va_S A s.heap s.heap [] := va_S.rf
  have hl := lv_entry ([.ref (a 0)]) (n := 6) (Nat.le_of_ble_eq_true rfl)
  rw [lg_entry_eq]
  generalize (lg_sl ([.ref (a 0)]) ++ List.replicate (6 - (lg_sl ([.ref (a 0)])).length) Slot.unset).toArray = ls at hl ⊢
  have hl : lv_has ls 6 [(0, .ref (a 0))] := hl
  have hf : pf_X7_readPage nl np nr = some res := hf
  refine lv_iconst (v := 0) hx hb dX7_readPage_0 (by decide) ?_
  refine lv_istore_n (lv' := [(1, .int (0 : Int32)), (0, .ref (a 0))]) hx hb dX7_readPage_1 rfl hl (by decide) rfl (fun ls hl => ?_)
  obtain ⟨k2, hf, hkk2⟩ := jx_bs hf
  have hXk2 : ∀ (H : Heap) (locs : List Loc) (ls : Array Slot), va_P D vwCl (wM a cI cL nl np nt k2 nh ns nk ne nw na nf nc ng nx) H → va_D A (wM a cI cL nl np nt k2 nh ns nk ne nw na nf nc ng nx) → va_S A s.heap H locs → lv_has ls 6 [(0, .ref (a 0))] → jx_Wi p l e wsX7_readPage ({ frames := 2, cells := 0, slots := 0, locals := 42 }) s m [.ref (a 0)] below meth c D [(cI, .int), (cL, .long)] (res.1) (wM a cI cL nl np nt res.2 nh ns nk ne nw na nf nc ng nx) A H locs (F0 m 24 ls []) := by
    clear hf hP hD hS hl
    intro H locs ls hP hD hS hl
    have hf := hkk2
    refine lv_iconst (v := 0) hx hb dX7_readPage_24 (by decide) ?_
    refine lv_istore_n (lv' := [(1, .int (0 : Int32)), (0, .ref (a 0))]) hx hb dX7_readPage_25 rfl hl (by decide) rfl (fun ls hl => ?_)
    refine lv_iconst (v := -1) hx hb dX7_readPage_26 (by decide) ?_
    refine lv_istore_n (lv' := [(2, .int (-1 : Int32)), (1, .int (0 : Int32)), (0, .ref (a 0))]) hx hb dX7_readPage_27 rfl hl (by decide) rfl (fun ls hl => ?_)
    refine lv_iconst (v := 1) hx hb dX7_readPage_28 (by decide) ?_
    refine lv_istore_n (lv' := [(3, .int (1 : Int32)), (2, .int (-1 : Int32)), (1, .int (0 : Int32)), (0, .ref (a 0))]) hx hb dX7_readPage_29 rfl hl (by decide) rfl (fun ls hl => ?_)
    obtain ⟨k5, hf, hkk5⟩ := jx_bs hf
    have hXk5 : ∀ (H : Heap) (locs : List Loc) (ls : Array Slot), va_P D vwCl (wM a cI cL nl np nt k5.2 nh ns nk ne nw na nf nc ng nx) H → va_D A (wM a cI cL nl np nt k5.2 nh ns nk ne nw na nf nc ng nx) → va_S A s.heap H locs → lv_has ls 6 [(1, .int k5.1)] → jx_Wi p l e wsX7_readPage ({ frames := 2, cells := 0, slots := 0, locals := 42 }) s m [.ref (a 0)] below meth c D [(cI, .int), (cL, .long)] (res.1) (wM a cI cL nl np nt res.2 nh ns nk ne nw na nf nc ng nx) A H locs (F0 m 155 ls []) := by
      clear hf hP hD hS hl
      intro H locs ls hP hD hS hl
      have hf := hkk5
      refine lv_iload_n hx hb dX7_readPage_155 rfl (lv_at hl 0 rfl) ?_
      have he := jx_eq hf
      subst he
      exact jx_reti hx hb hr hlocks rfl hK hP hD hS dX7_readPage_156
    have hLk5 : ∀ (n : Nat) (s4 : (Int32 × Int32 × Int32 × (Nat → Int32))) (H : Heap) (locs : List Loc) (ls : Array Slot), jx_iter (pf_X7_readPage_s2 nl np) n s4 = some k5 → va_P D vwCl (wM a cI cL nl np nt s4.2.2.2 nh ns nk ne nw na nf nc ng nx) H → va_D A (wM a cI cL nl np nt s4.2.2.2 nh ns nk ne nw na nf nc ng nx) → va_S A s.heap H locs → lv_has ls 6 [(0, .ref (a 0)), (1, .int s4.1), (2, .int s4.2.1), (3, .int s4.2.2.1)] → jx_Wi p l e wsX7_readPage ({ frames := 2, cells := 0, slots := 0, locals := 42 }) s m [.ref (a 0)] below meth c D [(cI, .int), (cL, .long)] (res.1) (wM a cI cL nl np nt res.2 nh ns nk ne nw na nf nc ng nx) A H locs (F0 m 30 ls []) := by
      clear hf hP hD hS hl
      intro n
      induction n with
      | zero => intro s4 _ _ _ hf; cases hf
      | succ n ihk5 =>
        intro s4 H locs ls hf hP hD hS hl
        obtain ⟨q6, hf, hgk5⟩ := jx_bs hf
        refine lv_iload_n hx hb dX7_readPage_30 rfl (lv_at hl 3 rfl) ?_
        refine lv_if_eq (tgt := 155) hx hb dX7_readPage_31 (by decide) (fun hq => ?_) (fun hq => ?_)
        · replace hf := jx_pos hq hf
          have he := jx_eq hf
          subst he
          have he : _ = k5 := jx_eq hgk5
          subst he
          exact hXk5 _ _ _ hP hD hS (lv_sub hl [1] rfl)
        · replace hf := jx_neg hq hf
          refine lv_iload_n hx hb dX7_readPage_34 rfl (lv_at hl 1 rfl) ?_
          refine lv_aload_n hx hb dX7_readPage_35 rfl (lv_at hl 0 rfl) ?_
          refine va_get (D := D) (ci := 6) (v := .int nl) (C := RX7) (T := TX7) (N := 14) hx hb hts iw_X7_readPage_X7 hown hK hP 0 rfl rfl 0 (by decide) (hts (.fieldLink RX7 35 "PassedDutiesModel" "pageLength" "I") (by decide +kernel)) (fun _ h9 => h9) rfl dX7_readPage_36 ?_
          refine lv_icmp_ge (tgt := 155) hx hb dX7_readPage_39 (by decide) (fun hq => ?_) (fun hq => ?_)
          · replace hf := jx_pos hq hf
            have he := jx_eq hf
            subst he
            have he : _ = k5 := jx_eq hgk5
            subst he
            exact hXk5 _ _ _ hP hD hS (lv_sub hl [1] rfl)
          · replace hf := jx_neg hq hf
            refine lv_aload_n hx hb dX7_readPage_42 rfl (lv_at hl 0 rfl) ?_
            refine va_get (D := D) (ci := 6) (v := .ref (a 1)) (C := RX7) (T := TX7) (N := 14) hx hb hts iw_X7_readPage_X7 hown hK hP 0 rfl rfl 1 (by decide) (hts (.fieldLink RX7 7 "PassedDutiesModel" "page" "[I") (by decide +kernel)) (fun _ h9 => h9) rfl dX7_readPage_43 ?_
            refine lv_iload_n hx hb dX7_readPage_46 rfl (lv_at hl 1 rfl) ?_
            obtain ⟨hi, hf⟩ := jx_gs hf
            refine va_iald hx hb hK hP 1 0 rfl rfl (jx_ip hi) dX7_readPage_47 ?_
            clear hi
            refine lv_istore (lv' := [(4, .int (np (s4.1).toNatClampNeg)), (0, .ref (a 0)), (1, .int s4.1), (2, .int s4.2.1), (3, .int s4.2.2.1)]) hx hb dX7_readPage_48 hl (by decide) rfl (fun ls hl => ?_)
            refine lv_iload hx hb dX7_readPage_50 (lv_at hl 0 rfl) ?_
            obtain ⟨r7, hc, hf⟩ := jx_bs hf
            refine jx_ki (wr := [((a 0), .inr (6, [.int nl, .ref (a 1), .int nt, .ref (a 2), .int nh, .ref (a 3), .ref (a 4), .int ne, .int nw, .ref (a 5), .ref (a 6), .int nc, .ref (a 7), .long nx])), ((a 1), .inl (cI, 24, .inl np)), ((a 2), .inl (cI, 108, .inl s4.2.2.2)), ((a 3), .inl (cI, 8, .inl ns)), ((a 4), .inl (cI, 64, .inl nk)), ((a 5), .inl (cI, 8, .inl na)), ((a 6), .inl (cI, 8, .inl nf)), ((a 7), .inl (cI, 48, .inl ng))]) (ws2 := (wM a cI cL nl np nt s4.2.2.2 nh ns nk ne nw na nf nc ng nx)) (jx_runS (As := [.int (np (s4.1).toNatClampNeg)]) (rest := []) ⟨hx, hb, hml, hown, hts⟩ (c_X7_itemOf l D a cI cL (np (s4.1).toNatClampNeg) r7 hc _) (va_cwS 1 hts gX7_readPage_X7_itemOf rfl rfl rfl (by decide +kernel) ⟨Nat.le_of_ble_eq_true rfl, Nat.le_of_ble_eq_true rfl⟩) hK hN hP hD [] rfl (by decide) rfl hl.1 rfl (Nat.le_of_ble_eq_true rfl) dX7_readPage_52 ⟨Nat.le_of_ble_eq_true rfl, Nat.le_of_ble_eq_true rfl⟩) hP hD hS hA [] [0, 1, 2, 3, 4, 5, 6, 7] [0, 1, 2, 3, 4, 5, 6, 7] rfl rfl (by decide) (by decide) rfl (by decide) (fun H locs hP hD hS => ?_)
            clear hc
            refine lv_istore (lv' := [(5, .int r7), (4, .int (np (s4.1).toNatClampNeg)), (0, .ref (a 0)), (1, .int s4.1), (2, .int s4.2.1), (3, .int s4.2.2.1)]) hx hb dX7_readPage_55 hl (by decide) rfl (fun ls hl => ?_)
            refine lv_iload hx hb dX7_readPage_57 (lv_at hl 0 rfl) ?_
            refine lv_iconst (v := -1) hx hb dX7_readPage_59 (by decide) ?_
            obtain ⟨j8, hf, hkj8⟩ := jx_bs hf
            have hJj8 : ∀ (H : Heap) (locs : List Loc) (ls : Array Slot), va_P D vwCl (wM a cI cL nl np nt j8.2.2 nh ns nk ne nw na nf nc ng nx) H → va_D A (wM a cI cL nl np nt j8.2.2 nh ns nk ne nw na nf nc ng nx) → va_S A s.heap H locs → lv_has ls 6 [(0, .ref (a 0)), (1, .int s4.1), (2, .int j8.1), (3, .int j8.2.1)] → jx_Wi p l e wsX7_readPage ({ frames := 2, cells := 0, slots := 0, locals := 42 }) s m [.ref (a 0)] below meth c D [(cI, .int), (cL, .long)] (res.1) (wM a cI cL nl np nt res.2 nh ns nk ne nw na nf nc ng nx) A H locs (F0 m 140 ls []) := by
              clear hf hP hD hS hl
              intro H locs ls hP hD hS hl
              have hf := hkj8
              refine lv_iload_n hx hb dX7_readPage_140 rfl (lv_at hl 1 rfl) ?_
              refine lv_iload_n hx hb dX7_readPage_141 rfl (lv_at hl 3 rfl) ?_
              obtain ⟨j13, hf, hkj13⟩ := jx_bs hf
              have hJj13 : ∀ (H : Heap) (locs : List Loc) (ls : Array Slot), va_P D vwCl (wM a cI cL nl np nt j8.2.2 nh ns nk ne nw na nf nc ng nx) H → va_D A (wM a cI cL nl np nt j8.2.2 nh ns nk ne nw na nf nc ng nx) → va_S A s.heap H locs → lv_has ls 6 [(0, .ref (a 0)), (2, .int j8.1), (3, .int j8.2.1)] → jx_Wi p l e wsX7_readPage ({ frames := 2, cells := 0, slots := 0, locals := 42 }) s m [.ref (a 0)] below meth c D [(cI, .int), (cL, .long)] (res.1) (wM a cI cL nl np nt res.2 nh ns nk ne nw na nf nc ng nx) A H locs (F0 m 150 ls [.int j13, .int s4.1]) := by
                clear hf hP hD hS hl
                intro H locs ls hP hD hS hl
                have hf := hkj13
                refine lv_iadd hx hb dX7_readPage_150 ?_
                refine lv_istore_n (lv' := [(1, .int (s4.1 + j13)), (0, .ref (a 0)), (2, .int j8.1), (3, .int j8.2.1)]) hx hb dX7_readPage_151 rfl hl (by decide) rfl (fun ls hl => ?_)
                refine lv_goto (tgt := 30) hx hb dX7_readPage_152 (by decide) ?_
                have he := jx_eq hf
                subst he
                exact ihk5 ((s4.1 + j13), j8.1, j8.2.1, j8.2.2) _ _ _ hgk5 hP hD hS (lv_sub hl [1, 0, 2, 3] rfl)
              refine lv_if_eq (tgt := 149) hx hb dX7_readPage_142 (by decide) (fun hq => ?_) (fun hq => ?_)
              · replace hf := jx_pos hq hf
                refine lv_iconst (v := 0) hx hb dX7_readPage_149 (by decide) ?_
                have he := jx_eq hf
                subst he
                exact hJj13 _ _ _ hP hD hS (lv_sub hl [0, 2, 3] rfl)
              · replace hf := jx_neg hq hf
                refine lv_iconst (v := 1) hx hb dX7_readPage_145 (by decide) ?_
                refine lv_goto (tgt := 150) hx hb dX7_readPage_146 (by decide) ?_
                have he := jx_eq hf
                subst he
                exact hJj13 _ _ _ hP hD hS (lv_sub hl [0, 2, 3] rfl)
            refine lv_icmp_eq (tgt := 93) hx hb dX7_readPage_60 (by decide) (fun hq => ?_) (fun hq => ?_)
            · replace hf := jx_pos hq hf
              refine lv_iload_n hx hb dX7_readPage_93 rfl (lv_at hl 4 rfl) ?_
              refine lv_iconst (v := -1) hx hb dX7_readPage_94 (by decide) ?_
              refine lv_icmp_eq (tgt := 138) hx hb dX7_readPage_95 (by decide) (fun hq => ?_) (fun hq => ?_)
              · replace hf := jx_pos hq hf
                refine lv_iconst (v := 0) hx hb dX7_readPage_138 (by decide) ?_
                refine lv_istore_n (lv' := [(3, .int (0 : Int32)), (5, .int r7), (4, .int (np (s4.1).toNatClampNeg)), (0, .ref (a 0)), (1, .int s4.1), (2, .int s4.2.1)]) hx hb dX7_readPage_139 rfl hl (by decide) rfl (fun ls hl => ?_)
                have he := jx_eq hf
                subst he
                exact hJj8 _ _ _ hP hD hS (lv_sub hl [3, 4, 5, 0] rfl)
              · replace hf := jx_neg hq hf
                refine lv_iload hx hb dX7_readPage_98 (lv_at hl 1 rfl) ?_
                refine lv_bipush (v := 43) hx hb dX7_readPage_100 (by decide) ?_
                refine lv_icmp_eq (tgt := 112) hx hb dX7_readPage_102 (by decide) (fun hq => ?_) (fun hq => ?_)
                · replace hf := jx_pos hq hf
                  refine lv_aload_n hx hb dX7_readPage_112 rfl (lv_at hl 2 rfl) ?_
                  refine va_get (D := D) (ci := 6) (v := .ref (a 2)) (C := RX7) (T := TX7) (N := 14) hx hb hts iw_X7_readPage_X7 hown hK hP 0 rfl rfl 3 (by decide) (hts (.fieldLink RX7 13 "PassedDutiesModel" "reaches" "[I") (by decide +kernel)) (fun _ h9 => h9) rfl dX7_readPage_113 ?_
                  refine lv_bipush (v := 96) hx hb dX7_readPage_116 (by decide) ?_
                  refine lv_iload_n hx hb dX7_readPage_118 rfl (lv_at hl 4 rfl) ?_
                  refine lv_iadd hx hb dX7_readPage_119 ?_
                  refine lv_iload hx hb dX7_readPage_120 (lv_at hl 1 rfl) ?_
                  refine lv_bipush (v := 43) hx hb dX7_readPage_122 (by decide) ?_
                  obtain ⟨j9, hf, hkj9⟩ := jx_bs hf
                  have hJj9 : ∀ (H : Heap) (locs : List Loc) (ls : Array Slot), va_P D vwCl (wM a cI cL nl np nt s4.2.2.2 nh ns nk ne nw na nf nc ng nx) H → va_D A (wM a cI cL nl np nt s4.2.2.2 nh ns nk ne nw na nf nc ng nx) → va_S A s.heap H locs → lv_has ls 6 [(0, .ref (a 0)), (1, .int s4.1), (3, .int s4.2.2.1)] → jx_Wi p l e wsX7_readPage ({ frames := 2, cells := 0, slots := 0, locals := 42 }) s m [.ref (a 0)] below meth c D [(cI, .int), (cL, .long)] (res.1) (wM a cI cL nl np nt res.2 nh ns nk ne nw na nf nc ng nx) A H locs (F0 m 132 ls [.int j9, .int ((96 : Int32) + s4.2.1), .ref (a 2)]) := by
                    clear hf hP hD hS hl
                    intro H locs ls hP hD hS hl
                    have hf := hkj9
                    obtain ⟨hi, hf⟩ := jx_gs hf
                    refine va_iast hx hb hK hP hD hS 2 0 rfl rfl (jx_ip hi) dX7_readPage_132 (fun H locs hP hD hS => ?_)
                    clear hi
                    have hP : va_P D vwCl (wM a cI cL nl np nt (upd s4.2.2.2 (((96 : Int32) + s4.2.1)).toNatClampNeg j9) nh ns nk ne nw na nf nc ng nx) H := hP
                    have hD : va_D A (wM a cI cL nl np nt (upd s4.2.2.2 (((96 : Int32) + s4.2.1)).toNatClampNeg j9) nh ns nk ne nw na nf nc ng nx) := hD
                    refine lv_iconst (v := -1) hx hb dX7_readPage_133 (by decide) ?_
                    refine lv_istore_n (lv' := [(2, .int (-1 : Int32)), (0, .ref (a 0)), (1, .int s4.1), (3, .int s4.2.2.1)]) hx hb dX7_readPage_134 rfl hl (by decide) rfl (fun ls hl => ?_)
                    refine lv_goto (tgt := 140) hx hb dX7_readPage_135 (by decide) ?_
                    have he := jx_eq hf
                    subst he
                    exact hJj8 _ _ _ hP hD hS (lv_sub hl [1, 2, 0, 3] rfl)
                  refine lv_icmp_ne (tgt := 131) hx hb dX7_readPage_124 (by decide) (fun hq => ?_) (fun hq => ?_)
                  · replace hf := jx_pos hq hf
                    refine lv_iconst (v := 3) hx hb dX7_readPage_131 (by decide) ?_
                    have he := jx_eq hf
                    subst he
                    exact hJj9 _ _ _ hP hD hS (lv_sub hl [2, 3, 5] rfl)
                  · replace hf := jx_negn hq hf
                    refine lv_iconst (v := 2) hx hb dX7_readPage_127 (by decide) ?_
                    refine lv_goto (tgt := 132) hx hb dX7_readPage_128 (by decide) ?_
                    have he := jx_eq hf
                    subst he
                    exact hJj9 _ _ _ hP hD hS (lv_sub hl [2, 3, 5] rfl)
                · replace hf := jx_neg hq hf
                  refine lv_iload hx hb dX7_readPage_105 (lv_at hl 1 rfl) ?_
                  refine lv_bipush (v := 42) hx hb dX7_readPage_107 (by decide) ?_
                  refine lv_icmp_ne (tgt := 138) hx hb dX7_readPage_109 (by decide) (fun hq => ?_) (fun hq => ?_)
                  · replace hf := jx_pos hq hf
                    refine lv_iconst (v := 0) hx hb dX7_readPage_138 (by decide) ?_
                    refine lv_istore_n (lv' := [(3, .int (0 : Int32)), (5, .int r7), (4, .int (np (s4.1).toNatClampNeg)), (0, .ref (a 0)), (1, .int s4.1), (2, .int s4.2.1)]) hx hb dX7_readPage_139 rfl hl (by decide) rfl (fun ls hl => ?_)
                    have he := jx_eq hf
                    subst he
                    exact hJj8 _ _ _ hP hD hS (lv_sub hl [3, 4, 5, 0] rfl)
                  · replace hf := jx_negn hq hf
                    refine lv_aload_n hx hb dX7_readPage_112 rfl (lv_at hl 2 rfl) ?_
                    refine va_get (D := D) (ci := 6) (v := .ref (a 2)) (C := RX7) (T := TX7) (N := 14) hx hb hts iw_X7_readPage_X7 hown hK hP 0 rfl rfl 3 (by decide) (hts (.fieldLink RX7 13 "PassedDutiesModel" "reaches" "[I") (by decide +kernel)) (fun _ h9 => h9) rfl dX7_readPage_113 ?_
                    refine lv_bipush (v := 96) hx hb dX7_readPage_116 (by decide) ?_
                    refine lv_iload_n hx hb dX7_readPage_118 rfl (lv_at hl 4 rfl) ?_
                    refine lv_iadd hx hb dX7_readPage_119 ?_
                    refine lv_iload hx hb dX7_readPage_120 (lv_at hl 1 rfl) ?_
                    refine lv_bipush (v := 43) hx hb dX7_readPage_122 (by decide) ?_
                    obtain ⟨j10, hf, hkj10⟩ := jx_bs hf
                    have hJj10 : ∀ (H : Heap) (locs : List Loc) (ls : Array Slot), va_P D vwCl (wM a cI cL nl np nt s4.2.2.2 nh ns nk ne nw na nf nc ng nx) H → va_D A (wM a cI cL nl np nt s4.2.2.2 nh ns nk ne nw na nf nc ng nx) → va_S A s.heap H locs → lv_has ls 6 [(0, .ref (a 0)), (1, .int s4.1), (3, .int s4.2.2.1)] → jx_Wi p l e wsX7_readPage ({ frames := 2, cells := 0, slots := 0, locals := 42 }) s m [.ref (a 0)] below meth c D [(cI, .int), (cL, .long)] (res.1) (wM a cI cL nl np nt res.2 nh ns nk ne nw na nf nc ng nx) A H locs (F0 m 132 ls [.int j10, .int ((96 : Int32) + s4.2.1), .ref (a 2)]) := by
                      clear hf hP hD hS hl
                      intro H locs ls hP hD hS hl
                      have hf := hkj10
                      obtain ⟨hi, hf⟩ := jx_gs hf
                      refine va_iast hx hb hK hP hD hS 2 0 rfl rfl (jx_ip hi) dX7_readPage_132 (fun H locs hP hD hS => ?_)
                      clear hi
                      have hP : va_P D vwCl (wM a cI cL nl np nt (upd s4.2.2.2 (((96 : Int32) + s4.2.1)).toNatClampNeg j10) nh ns nk ne nw na nf nc ng nx) H := hP
                      have hD : va_D A (wM a cI cL nl np nt (upd s4.2.2.2 (((96 : Int32) + s4.2.1)).toNatClampNeg j10) nh ns nk ne nw na nf nc ng nx) := hD
                      refine lv_iconst (v := -1) hx hb dX7_readPage_133 (by decide) ?_
                      refine lv_istore_n (lv' := [(2, .int (-1 : Int32)), (0, .ref (a 0)), (1, .int s4.1), (3, .int s4.2.2.1)]) hx hb dX7_readPage_134 rfl hl (by decide) rfl (fun ls hl => ?_)
                      refine lv_goto (tgt := 140) hx hb dX7_readPage_135 (by decide) ?_
                      have he := jx_eq hf
                      subst he
                      exact hJj8 _ _ _ hP hD hS (lv_sub hl [1, 2, 0, 3] rfl)
                    refine lv_icmp_ne (tgt := 131) hx hb dX7_readPage_124 (by decide) (fun hq => ?_) (fun hq => ?_)
                    · replace hf := jx_pos hq hf
                      refine lv_iconst (v := 3) hx hb dX7_readPage_131 (by decide) ?_
                      have he := jx_eq hf
                      subst he
                      exact hJj10 _ _ _ hP hD hS (lv_sub hl [2, 3, 5] rfl)
                    · replace hf := jx_negn hq hf
                      refine lv_iconst (v := 2) hx hb dX7_readPage_127 (by decide) ?_
                      refine lv_goto (tgt := 132) hx hb dX7_readPage_128 (by decide) ?_
                      have he := jx_eq hf
                      subst he
                      exact hJj10 _ _ _ hP hD hS (lv_sub hl [2, 3, 5] rfl)
            · replace hf := jx_neg hq hf
              refine lv_aload_n hx hb dX7_readPage_63 rfl (lv_at hl 2 rfl) ?_
              refine va_get (D := D) (ci := 6) (v := .ref (a 2)) (C := RX7) (T := TX7) (N := 14) hx hb hts iw_X7_readPage_X7 hown hK hP 0 rfl rfl 3 (by decide) (hts (.fieldLink RX7 13 "PassedDutiesModel" "reaches" "[I") (by decide +kernel)) (fun _ h9 => h9) rfl dX7_readPage_64 ?_
              refine lv_bipush (v := 96) hx hb dX7_readPage_67 (by decide) ?_
              refine lv_iload hx hb dX7_readPage_69 (lv_at hl 0 rfl) ?_
              refine lv_iadd hx hb dX7_readPage_71 ?_
              obtain ⟨hi, hf⟩ := jx_gs hf
              refine va_iald hx hb hK hP 2 0 rfl rfl (jx_ip hi) dX7_readPage_72 ?_
              clear hi
              refine lv_if_ne (tgt := 93) hx hb dX7_readPage_73 (by decide) (fun hq => ?_) (fun hq => ?_)
              · replace hf := jx_pos hq hf
                refine lv_iload_n hx hb dX7_readPage_93 rfl (lv_at hl 4 rfl) ?_
                refine lv_iconst (v := -1) hx hb dX7_readPage_94 (by decide) ?_
                refine lv_icmp_eq (tgt := 138) hx hb dX7_readPage_95 (by decide) (fun hq => ?_) (fun hq => ?_)
                · replace hf := jx_pos hq hf
                  refine lv_iconst (v := 0) hx hb dX7_readPage_138 (by decide) ?_
                  refine lv_istore_n (lv' := [(3, .int (0 : Int32)), (5, .int r7), (4, .int (np (s4.1).toNatClampNeg)), (0, .ref (a 0)), (1, .int s4.1), (2, .int s4.2.1)]) hx hb dX7_readPage_139 rfl hl (by decide) rfl (fun ls hl => ?_)
                  have he := jx_eq hf
                  subst he
                  exact hJj8 _ _ _ hP hD hS (lv_sub hl [3, 4, 5, 0] rfl)
                · replace hf := jx_neg hq hf
                  refine lv_iload hx hb dX7_readPage_98 (lv_at hl 1 rfl) ?_
                  refine lv_bipush (v := 43) hx hb dX7_readPage_100 (by decide) ?_
                  refine lv_icmp_eq (tgt := 112) hx hb dX7_readPage_102 (by decide) (fun hq => ?_) (fun hq => ?_)
                  · replace hf := jx_pos hq hf
                    refine lv_aload_n hx hb dX7_readPage_112 rfl (lv_at hl 2 rfl) ?_
                    refine va_get (D := D) (ci := 6) (v := .ref (a 2)) (C := RX7) (T := TX7) (N := 14) hx hb hts iw_X7_readPage_X7 hown hK hP 0 rfl rfl 3 (by decide) (hts (.fieldLink RX7 13 "PassedDutiesModel" "reaches" "[I") (by decide +kernel)) (fun _ h9 => h9) rfl dX7_readPage_113 ?_
                    refine lv_bipush (v := 96) hx hb dX7_readPage_116 (by decide) ?_
                    refine lv_iload_n hx hb dX7_readPage_118 rfl (lv_at hl 4 rfl) ?_
                    refine lv_iadd hx hb dX7_readPage_119 ?_
                    refine lv_iload hx hb dX7_readPage_120 (lv_at hl 1 rfl) ?_
                    refine lv_bipush (v := 43) hx hb dX7_readPage_122 (by decide) ?_
                    obtain ⟨j11, hf, hkj11⟩ := jx_bs hf
                    have hJj11 : ∀ (H : Heap) (locs : List Loc) (ls : Array Slot), va_P D vwCl (wM a cI cL nl np nt s4.2.2.2 nh ns nk ne nw na nf nc ng nx) H → va_D A (wM a cI cL nl np nt s4.2.2.2 nh ns nk ne nw na nf nc ng nx) → va_S A s.heap H locs → lv_has ls 6 [(0, .ref (a 0)), (1, .int s4.1), (3, .int s4.2.2.1)] → jx_Wi p l e wsX7_readPage ({ frames := 2, cells := 0, slots := 0, locals := 42 }) s m [.ref (a 0)] below meth c D [(cI, .int), (cL, .long)] (res.1) (wM a cI cL nl np nt res.2 nh ns nk ne nw na nf nc ng nx) A H locs (F0 m 132 ls [.int j11, .int ((96 : Int32) + s4.2.1), .ref (a 2)]) := by
                      clear hf hP hD hS hl
                      intro H locs ls hP hD hS hl
                      have hf := hkj11
                      obtain ⟨hi, hf⟩ := jx_gs hf
                      refine va_iast hx hb hK hP hD hS 2 0 rfl rfl (jx_ip hi) dX7_readPage_132 (fun H locs hP hD hS => ?_)
                      clear hi
                      have hP : va_P D vwCl (wM a cI cL nl np nt (upd s4.2.2.2 (((96 : Int32) + s4.2.1)).toNatClampNeg j11) nh ns nk ne nw na nf nc ng nx) H := hP
                      have hD : va_D A (wM a cI cL nl np nt (upd s4.2.2.2 (((96 : Int32) + s4.2.1)).toNatClampNeg j11) nh ns nk ne nw na nf nc ng nx) := hD
                      refine lv_iconst (v := -1) hx hb dX7_readPage_133 (by decide) ?_
                      refine lv_istore_n (lv' := [(2, .int (-1 : Int32)), (0, .ref (a 0)), (1, .int s4.1), (3, .int s4.2.2.1)]) hx hb dX7_readPage_134 rfl hl (by decide) rfl (fun ls hl => ?_)
                      refine lv_goto (tgt := 140) hx hb dX7_readPage_135 (by decide) ?_
                      have he := jx_eq hf
                      subst he
                      exact hJj8 _ _ _ hP hD hS (lv_sub hl [1, 2, 0, 3] rfl)
                    refine lv_icmp_ne (tgt := 131) hx hb dX7_readPage_124 (by decide) (fun hq => ?_) (fun hq => ?_)
                    · replace hf := jx_pos hq hf
                      refine lv_iconst (v := 3) hx hb dX7_readPage_131 (by decide) ?_
                      have he := jx_eq hf
                      subst he
                      exact hJj11 _ _ _ hP hD hS (lv_sub hl [2, 3, 5] rfl)
                    · replace hf := jx_negn hq hf
                      refine lv_iconst (v := 2) hx hb dX7_readPage_127 (by decide) ?_
                      refine lv_goto (tgt := 132) hx hb dX7_readPage_128 (by decide) ?_
                      have he := jx_eq hf
                      subst he
                      exact hJj11 _ _ _ hP hD hS (lv_sub hl [2, 3, 5] rfl)
                  · replace hf := jx_neg hq hf
                    refine lv_iload hx hb dX7_readPage_105 (lv_at hl 1 rfl) ?_
                    refine lv_bipush (v := 42) hx hb dX7_readPage_107 (by decide) ?_
                    refine lv_icmp_ne (tgt := 138) hx hb dX7_readPage_109 (by decide) (fun hq => ?_) (fun hq => ?_)
                    · replace hf := jx_pos hq hf
                      refine lv_iconst (v := 0) hx hb dX7_readPage_138 (by decide) ?_
                      refine lv_istore_n (lv' := [(3, .int (0 : Int32)), (5, .int r7), (4, .int (np (s4.1).toNatClampNeg)), (0, .ref (a 0)), (1, .int s4.1), (2, .int s4.2.1)]) hx hb dX7_readPage_139 rfl hl (by decide) rfl (fun ls hl => ?_)
                      have he := jx_eq hf
                      subst he
                      exact hJj8 _ _ _ hP hD hS (lv_sub hl [3, 4, 5, 0] rfl)
                    · replace hf := jx_negn hq hf
                      refine lv_aload_n hx hb dX7_readPage_112 rfl (lv_at hl 2 rfl) ?_
                      refine va_get (D := D) (ci := 6) (v := .ref (a 2)) (C := RX7) (T := TX7) (N := 14) hx hb hts iw_X7_readPage_X7 hown hK hP 0 rfl rfl 3 (by decide) (hts (.fieldLink RX7 13 "PassedDutiesModel" "reaches" "[I") (by decide +kernel)) (fun _ h9 => h9) rfl dX7_readPage_113 ?_
                      refine lv_bipush (v := 96) hx hb dX7_readPage_116 (by decide) ?_
                      refine lv_iload_n hx hb dX7_readPage_118 rfl (lv_at hl 4 rfl) ?_
                      refine lv_iadd hx hb dX7_readPage_119 ?_
                      refine lv_iload hx hb dX7_readPage_120 (lv_at hl 1 rfl) ?_
                      refine lv_bipush (v := 43) hx hb dX7_readPage_122 (by decide) ?_
                      obtain ⟨j12, hf, hkj12⟩ := jx_bs hf
                      have hJj12 : ∀ (H : Heap) (locs : List Loc) (ls : Array Slot), va_P D vwCl (wM a cI cL nl np nt s4.2.2.2 nh ns nk ne nw na nf nc ng nx) H → va_D A (wM a cI cL nl np nt s4.2.2.2 nh ns nk ne nw na nf nc ng nx) → va_S A s.heap H locs → lv_has ls 6 [(0, .ref (a 0)), (1, .int s4.1), (3, .int s4.2.2.1)] → jx_Wi p l e wsX7_readPage ({ frames := 2, cells := 0, slots := 0, locals := 42 }) s m [.ref (a 0)] below meth c D [(cI, .int), (cL, .long)] (res.1) (wM a cI cL nl np nt res.2 nh ns nk ne nw na nf nc ng nx) A H locs (F0 m 132 ls [.int j12, .int ((96 : Int32) + s4.2.1), .ref (a 2)]) := by
                        clear hf hP hD hS hl
                        intro H locs ls hP hD hS hl
                        have hf := hkj12
                        obtain ⟨hi, hf⟩ := jx_gs hf
                        refine va_iast hx hb hK hP hD hS 2 0 rfl rfl (jx_ip hi) dX7_readPage_132 (fun H locs hP hD hS => ?_)
                        clear hi
                        have hP : va_P D vwCl (wM a cI cL nl np nt (upd s4.2.2.2 (((96 : Int32) + s4.2.1)).toNatClampNeg j12) nh ns nk ne nw na nf nc ng nx) H := hP
                        have hD : va_D A (wM a cI cL nl np nt (upd s4.2.2.2 (((96 : Int32) + s4.2.1)).toNatClampNeg j12) nh ns nk ne nw na nf nc ng nx) := hD
                        refine lv_iconst (v := -1) hx hb dX7_readPage_133 (by decide) ?_
                        refine lv_istore_n (lv' := [(2, .int (-1 : Int32)), (0, .ref (a 0)), (1, .int s4.1), (3, .int s4.2.2.1)]) hx hb dX7_readPage_134 rfl hl (by decide) rfl (fun ls hl => ?_)
                        refine lv_goto (tgt := 140) hx hb dX7_readPage_135 (by decide) ?_
                        have he := jx_eq hf
                        subst he
                        exact hJj8 _ _ _ hP hD hS (lv_sub hl [1, 2, 0, 3] rfl)
                      refine lv_icmp_ne (tgt := 131) hx hb dX7_readPage_124 (by decide) (fun hq => ?_) (fun hq => ?_)
                      · replace hf := jx_pos hq hf
                        refine lv_iconst (v := 3) hx hb dX7_readPage_131 (by decide) ?_
                        have he := jx_eq hf
                        subst he
                        exact hJj12 _ _ _ hP hD hS (lv_sub hl [2, 3, 5] rfl)
                      · replace hf := jx_negn hq hf
                        refine lv_iconst (v := 2) hx hb dX7_readPage_127 (by decide) ?_
                        refine lv_goto (tgt := 132) hx hb dX7_readPage_128 (by decide) ?_
                        have he := jx_eq hf
                        subst he
                        exact hJj12 _ _ _ hP hD hS (lv_sub hl [2, 3, 5] rfl)
              · replace hf := jx_negn hq hf
                refine lv_aload_n hx hb dX7_readPage_76 rfl (lv_at hl 2 rfl) ?_
                refine va_get (D := D) (ci := 6) (v := .ref (a 2)) (C := RX7) (T := TX7) (N := 14) hx hb hts iw_X7_readPage_X7 hown hK hP 0 rfl rfl 3 (by decide) (hts (.fieldLink RX7 13 "PassedDutiesModel" "reaches" "[I") (by decide +kernel)) (fun _ h9 => h9) rfl dX7_readPage_77 ?_
                refine lv_bipush (v := 96) hx hb dX7_readPage_80 (by decide) ?_
                refine lv_iload hx hb dX7_readPage_82 (lv_at hl 0 rfl) ?_
                refine lv_iadd hx hb dX7_readPage_84 ?_
                refine lv_iconst (v := 1) hx hb dX7_readPage_85 (by decide) ?_
                obtain ⟨hi, hf⟩ := jx_gs hf
                refine va_iast hx hb hK hP hD hS 2 0 rfl rfl (jx_ip hi) dX7_readPage_86 (fun H locs hP hD hS => ?_)
                clear hi
                have hP : va_P D vwCl (wM a cI cL nl np nt (upd s4.2.2.2 (((96 : Int32) + r7)).toNatClampNeg (1 : Int32)) nh ns nk ne nw na nf nc ng nx) H := hP
                have hD : va_D A (wM a cI cL nl np nt (upd s4.2.2.2 (((96 : Int32) + r7)).toNatClampNeg (1 : Int32)) nh ns nk ne nw na nf nc ng nx) := hD
                refine lv_iload hx hb dX7_readPage_87 (lv_at hl 0 rfl) ?_
                refine lv_istore_n (lv' := [(2, .int r7), (5, .int r7), (4, .int (np (s4.1).toNatClampNeg)), (0, .ref (a 0)), (1, .int s4.1), (3, .int s4.2.2.1)]) hx hb dX7_readPage_89 rfl hl (by decide) rfl (fun ls hl => ?_)
                refine lv_goto (tgt := 140) hx hb dX7_readPage_90 (by decide) ?_
                have he := jx_eq hf
                subst he
                exact hJj8 _ _ _ hP hD hS (lv_sub hl [3, 4, 0, 5] rfl)
    exact hLk5 jx_F ((0 : Int32), (-1 : Int32), (1 : Int32), k2) _ _ _ hf hP hD hS (lv_sub hl [3, 2, 1, 0] rfl)
  have hLk2 : ∀ (n : Nat) (s1 : (Int32 × (Nat → Int32))) (H : Heap) (locs : List Loc) (ls : Array Slot), jx_iter (pf_X7_readPage_s1) n s1 = some k2 → va_P D vwCl (wM a cI cL nl np nt s1.2 nh ns nk ne nw na nf nc ng nx) H → va_D A (wM a cI cL nl np nt s1.2 nh ns nk ne nw na nf nc ng nx) → va_S A s.heap H locs → lv_has ls 6 [(0, .ref (a 0)), (1, .int s1.1)] → jx_Wi p l e wsX7_readPage ({ frames := 2, cells := 0, slots := 0, locals := 42 }) s m [.ref (a 0)] below meth c D [(cI, .int), (cL, .long)] (res.1) (wM a cI cL nl np nt res.2 nh ns nk ne nw na nf nc ng nx) A H locs (F0 m 2 ls []) := by
    clear hf hP hD hS hl
    intro n
    induction n with
    | zero => intro s1 _ _ _ hf; cases hf
    | succ n ihk2 =>
      intro s1 H locs ls hf hP hD hS hl
      obtain ⟨q3, hf, hgk2⟩ := jx_bs hf
      refine lv_iload_n hx hb dX7_readPage_2 rfl (lv_at hl 1 rfl) ?_
      refine lv_bipush (v := 12) hx hb dX7_readPage_3 (by decide) ?_
      refine lv_icmp_ge (tgt := 24) hx hb dX7_readPage_5 (by decide) (fun hq => ?_) (fun hq => ?_)
      · replace hf := jx_pos hq hf
        have he := jx_eq hf
        subst he
        have he : _ = k2 := jx_eq hgk2
        subst he
        exact hXk2 _ _ _ hP hD hS (lv_sub hl [0] rfl)
      · replace hf := jx_neg hq hf
        refine lv_aload_n hx hb dX7_readPage_8 rfl (lv_at hl 0 rfl) ?_
        refine va_get (D := D) (ci := 6) (v := .ref (a 2)) (C := RX7) (T := TX7) (N := 14) hx hb hts iw_X7_readPage_X7 hown hK hP 0 rfl rfl 3 (by decide) (hts (.fieldLink RX7 13 "PassedDutiesModel" "reaches" "[I") (by decide +kernel)) (fun _ h9 => h9) rfl dX7_readPage_9 ?_
        refine lv_bipush (v := 96) hx hb dX7_readPage_12 (by decide) ?_
        refine lv_iload_n hx hb dX7_readPage_14 rfl (lv_at hl 1 rfl) ?_
        refine lv_iadd hx hb dX7_readPage_15 ?_
        refine lv_iconst (v := 0) hx hb dX7_readPage_16 (by decide) ?_
        obtain ⟨hi, hf⟩ := jx_gs hf
        refine va_iast hx hb hK hP hD hS 2 0 rfl rfl (jx_ip hi) dX7_readPage_17 (fun H locs hP hD hS => ?_)
        clear hi
        have hP : va_P D vwCl (wM a cI cL nl np nt (upd s1.2 (((96 : Int32) + s1.1)).toNatClampNeg (0 : Int32)) nh ns nk ne nw na nf nc ng nx) H := hP
        have hD : va_D A (wM a cI cL nl np nt (upd s1.2 (((96 : Int32) + s1.1)).toNatClampNeg (0 : Int32)) nh ns nk ne nw na nf nc ng nx) := hD
        refine lv_iinc (v := (s1.1 + (1 : Int32))) (lv' := [(1, .int (s1.1 + (1 : Int32))), (0, .ref (a 0))]) hx hb dX7_readPage_18 hl (k := 1) rfl rfl (by decide) rfl (fun ls hl => ?_)
        refine lv_goto (tgt := 2) hx hb dX7_readPage_21 (by decide) ?_
        have he := jx_eq hf
        subst he
        exact ihk2 ((s1.1 + (1 : Int32)), (upd s1.2 (((96 : Int32) + s1.1)).toNatClampNeg (0 : Int32))) _ _ _ hgk2 hP hD hS (lv_sub hl [1, 0] rfl)
  exact hLk2 jx_F ((0 : Int32), nr) _ _ _ hf hP hD hS (lv_sub hl [1, 0] rfl)
set_option maxHeartbeats 4000000 in
set_option maxRecDepth 100000 in
theorem c_X7_fault (l : Launch) (D : va_G) (a : Nat → Nat) (cI cL : ClassId) (nl : Int32) (np : (Nat → Int32)) (nt : Int32) (nr : (Nat → Int32)) (nh : Int32) (ns : (Nat → Int32)) (nk : (Nat → Int32)) (ne : Int32) (nw : Int32) (na : (Nat → Int32)) (nf : (Nat → Int32)) (nc : Int32) (ng : (Nat → Int32)) (nx : Int64) (res : (Int32 × (Nat → Int32))) (hf : pf_X7_fault nl np nr = some res) : jMi l yX7_fault wsX7_fault ({ frames := 3, cells := 0, slots := 0, locals := 67 }) D [(cI, .int), (cL, .long)] [.ref (a 0)] (wM a cI cL nl np nt nr nh ns nk ne nw na nf nc ng nx) res.1 (wM a cI cL nl np nt res.2 nh ns nk ne nw na nf nc ng nx) := by
  intro sz
  refine Met.ofW (cc := cX7_fault) (maxL := 1) (ret := (some .int)) (by decide) rfl ?_
  intro p e s m args below meth c s₁ B hml hv
  obtain ⟨rfl, hsz, hP, hK, hD0, hN⟩ := hv
  have hx := B.exec
  have hb := B.bytes
  have hr := B.returns
  have hts := atoms_spec (ws := wsX7_fault) B.pre
  have hown : s.vm.findClass RX7 = some m.cls := findClass_of_methodNamed B.named
  have hlocks := B.notSynchronized
  subst hsz
  have hD := hD0.self (sz := s.heap.size)
  generalize hAe : va_A (wM a cI cL nl np nt nr nh ns nk ne nw na nf nc ng nx) s.heap.size = A at hD ⊢
  have hA : ∀ q : Nat, s.heap.size ≤ q → A q := fun q h => by rw [← hAe]; exact Or.inr h
  have hS : va_S A s.heap s.heap [] := va_S.rf
  have hl := lv_entry ([.ref (a 0)]) (n := 1) (Nat.le_of_ble_eq_true rfl)
  rw [lg_entry_eq]
  generalize (lg_sl ([.ref (a 0)]) ++ List.replicate (1 - (lg_sl ([.ref (a 0)])).length) Slot.unset).toArray = ls at hl ⊢
  have hl : lv_has ls 1 [(0, .ref (a 0))] := hl
  have hf : pf_X7_fault nl np nr = some res := hf
  refine lv_aload_n hx hb dX7_fault_0 rfl (lv_at hl 0 rfl) ?_
  obtain ⟨r1, hc, hf⟩ := jx_bs hf
  refine jx_ki (wr := []) (ws2 := (wM a cI cL nl np nt r1.2 nh ns nk ne nw na nf nc ng nx)) (jx_runV (As := []) (rest := []) ⟨hx, hb, hml, hown, hts⟩ (c_X7_readPage l D a cI cL nl np nt nr nh ns nk ne nw na nf nc ng nx r1 hc _) (cwV 0 hts gX7_fault_X7_readPage rfl rfl rfl (by decide +kernel) ⟨Nat.le_of_ble_eq_true rfl, Nat.le_of_ble_eq_true rfl⟩) hK hN hP hD [0, 1, 2, 3, 4, 5, 6, 7] rfl (by decide) 0 6 rfl rfl rfl hl.1 rfl (Nat.le_of_ble_eq_true rfl) dX7_fault_1 ⟨Nat.le_of_ble_eq_true rfl, Nat.le_of_ble_eq_true rfl⟩) hP hD hS hA [0, 1, 2, 3, 4, 5, 6, 7] [] [0, 1, 2, 3, 4, 5, 6, 7] rfl rfl (by decide) (by decide) rfl (by decide) (fun H locs hP hD hS => ?_)
  clear hc
  have he := jx_eq hf
  subst he
  exact jx_reti hx hb hr hlocks rfl hK hP hD hS dX7_fault_4
