theorem iw_X3_getsMore_X3 : ∀ w ∈ wsX30, w ∈ wsX3_getsMore := by decide +kernel
set_option maxHeartbeats 4000000 in
set_option maxRecDepth 100000 in
theorem c_X3_getsMore (l : Launch) (D : va_G) (a : Nat → Nat) (b : Nat) (cI cL : ClassId) (ow : (Nat → Int64)) (th : (Nat → Int64)) (tr : Int32) (tl : Int32) (ch : Int32) (ar : (Nat → Int64)) (p0 : Int32) (res : (Int32 × (Nat → Int64))) (hf : pf_X3_getsMore th ar p0 = some res) : jMi l yX3_getsMore wsX3_getsMore ({ frames := 0, cells := 0, slots := 0, locals := 0 }) D [(cI, .int), (cL, .long)] [.ref (a 5), .int p0, .ref b] (wSp a b cI cL ow th tr tl ch ar) res.1 (wSp a b cI cL ow th tr tl ch res.2) := by
  intro sz
  refine Met.ofW (cc := cX3_getsMore) (maxL := 8) (ret := (some .boolean)) (by decide) rfl ?_
  intro p e s m args below meth c s₁ B hml hv
  obtain ⟨rfl, hsz, hP, hK, hD0, hN⟩ := hv
  have hx := B.exec
  have hb := B.bytes
  have hr := B.returns
  have hts := atoms_spec (ws := wsX3_getsMore) B.pre
  have hown : s.vm.findClass RX3 = some m.cls := findClass_of_methodNamed B.named
  have hlocks := B.notSynchronized
  subst hsz
  have hD := hD0.self (sz := s.heap.size)
  generalize hAe : va_A (wSp a b cI cL ow th tr tl ch ar) s.heap.size = A at hD ⊢
  have hA : ∀ q : Nat, s.heap.size ≤ q → A q := fun q h => by rw [← hAe]; exact Or.inr h
  have hS : va_S A s.heap s.heap [] := va_S.rf
  have hl := lv_entry ([.ref (a 5), .int p0, .ref b]) (n := 8) (Nat.le_of_ble_eq_true rfl)
  rw [lg_entry_eq]
  generalize (lg_sl ([.ref (a 5), .int p0, .ref b]) ++ List.replicate (8 - (lg_sl ([.ref (a 5), .int p0, .ref b])).length) Slot.unset).toArray = ls at hl ⊢
  have hl : lv_has ls 8 [(0, .ref (a 5)), (1, .int p0), (2, .ref b)] := hl
  have hf : pf_X3_getsMore th ar p0 = some res := hf
  refine lv_aload_n hx hb dX3_getsMore_0 rfl (lv_at hl 2 rfl) ?_
  refine lv_iload_n hx hb dX3_getsMore_1 rfl (lv_at hl 1 rfl) ?_
  obtain ⟨hi, hf⟩ := jx_gs hf
  refine va_lald hx hb hK hP 3 1 rfl rfl (jx_ip hi) dX3_getsMore_2 ?_
  clear hi
  refine lv_lstore_n (lv' := [(3, .long (ar (p0).toNatClampNeg)), (0, .ref (a 5)), (1, .int p0), (2, .ref b)]) hx hb dX3_getsMore_3 rfl hl (by decide) rfl (fun ls hl => ?_)
  refine lv_lload_n hx hb dX3_getsMore_4 rfl (lv_at hl 0 rfl) ?_
  refine lv_lstore (lv' := [(5, .long (ar (p0).toNatClampNeg)), (3, .long (ar (p0).toNatClampNeg)), (0, .ref (a 5)), (1, .int p0), (2, .ref b)]) hx hb dX3_getsMore_5 hl (by decide) rfl (fun ls hl => ?_)
  refine lv_iconst (v := 0) hx hb dX3_getsMore_7 (by decide) ?_
  refine lv_istore (lv' := [(7, .int (0 : Int32)), (5, .long (ar (p0).toNatClampNeg)), (3, .long (ar (p0).toNatClampNeg)), (0, .ref (a 5)), (1, .int p0), (2, .ref b)]) hx hb dX3_getsMore_8 hl (by decide) rfl (fun ls hl => ?_)
  obtain ⟨k2, hf, hkk2⟩ := jx_bs hf
  have hXk2 : ∀ (H : Heap) (locs : List Loc) (ls : Array Slot), va_P D vwCl (wSp a b cI cL ow th tr tl ch ar) H → va_D A (wSp a b cI cL ow th tr tl ch ar) → va_S A s.heap H locs → lv_has ls 8 [(1, .int p0), (2, .ref b), (3, .long (ar (p0).toNatClampNeg)), (5, .long k2)] → jx_Wi p l e wsX3_getsMore ({ frames := 0, cells := 0, slots := 0, locals := 0 }) s m [.ref (a 5), .int p0, .ref b] below meth c D [(cI, .int), (cL, .long)] (res.1) (wSp a b cI cL ow th tr tl ch res.2) A H locs (F0 m 45 ls []) := by
    clear hf hP hD hS hl
    intro H locs ls hP hD hS hl
    have hf := hkk2
    refine lv_aload_n hx hb dX3_getsMore_45 rfl (lv_at hl 1 rfl) ?_
    refine lv_iload_n hx hb dX3_getsMore_46 rfl (lv_at hl 0 rfl) ?_
    refine lv_lload hx hb dX3_getsMore_47 (lv_at hl 3 rfl) ?_
    obtain ⟨hi, hf⟩ := jx_gs hf
    refine va_last hx hb hK hP hD hS 3 1 rfl rfl (jx_ip hi) dX3_getsMore_49 (fun H locs hP hD hS => ?_)
    clear hi
    have hP : va_P D vwCl (wSp a b cI cL ow th tr tl ch (vp_updL ar (p0).toNatClampNeg k2)) H := hP
    have hD : va_D A (wSp a b cI cL ow th tr tl ch (vp_updL ar (p0).toNatClampNeg k2)) := hD
    refine lv_lload hx hb dX3_getsMore_50 (lv_at hl 3 rfl) ?_
    refine lv_lload_n hx hb dX3_getsMore_52 rfl (lv_at hl 2 rfl) ?_
    refine W.lcmp hx hb dX3_getsMore_53 ?_
    refine W.eq (g2 := F0 m 54 ls [.int (lg_cmp k2 (ar (p0).toNatClampNeg))]) rfl ?_
    refine lv_if_eq (tgt := 61) hx hb dX3_getsMore_54 (by decide) (fun hq => ?_) (fun hq => ?_)
    · replace hf := jx_pos hq hf
      refine lv_iconst (v := 0) hx hb dX3_getsMore_61 (by decide) ?_
      have he := jx_eq hf
      subst he
      exact jx_retz hx hb hr hlocks narrow_b0 rfl hK hP hD hS dX3_getsMore_62
    · replace hf := jx_neg hq hf
      refine lv_iconst (v := 1) hx hb dX3_getsMore_57 (by decide) ?_
      refine lv_goto (tgt := 62) hx hb dX3_getsMore_58 (by decide) ?_
      have he := jx_eq hf
      subst he
      exact jx_retz hx hb hr hlocks narrow_b1 rfl hK hP hD hS dX3_getsMore_62
  have hLk2 : ∀ (n : Nat) (s1 : (Int64 × Int32)) (H : Heap) (locs : List Loc) (ls : Array Slot), jx_iter (pf_X3_getsMore_s1 th ar p0) n s1 = some k2 → va_P D vwCl (wSp a b cI cL ow th tr tl ch ar) H → va_D A (wSp a b cI cL ow th tr tl ch ar) → va_S A s.heap H locs → lv_has ls 8 [(0, .ref (a 5)), (1, .int p0), (2, .ref b), (3, .long (ar (p0).toNatClampNeg)), (5, .long s1.1), (7, .int s1.2)] → jx_Wi p l e wsX3_getsMore ({ frames := 0, cells := 0, slots := 0, locals := 0 }) s m [.ref (a 5), .int p0, .ref b] below meth c D [(cI, .int), (cL, .long)] (res.1) (wSp a b cI cL ow th tr tl ch res.2) A H locs (F0 m 10 ls []) := by
    clear hf hP hD hS hl
    intro n
    induction n with
    | zero => intro s1 _ _ _ hf; cases hf
    | succ n ihk2 =>
      intro s1 H locs ls hf hP hD hS hl
      obtain ⟨q3, hf, hgk2⟩ := jx_bs hf
      refine lv_iload hx hb dX3_getsMore_10 (lv_at hl 5 rfl) ?_
      refine lv_bipush (v := 8) hx hb dX3_getsMore_12 (by decide) ?_
      refine lv_icmp_ge (tgt := 45) hx hb dX3_getsMore_14 (by decide) (fun hq => ?_) (fun hq => ?_)
      · replace hf := jx_pos hq hf
        have he := jx_eq hf
        subst he
        have he : _ = k2 := jx_eq hgk2
        subst he
        exact hXk2 _ _ _ hP hD hS (lv_sub hl [1, 2, 3, 4] rfl)
      · replace hf := jx_neg hq hf
        refine lv_lload hx hb dX3_getsMore_17 (lv_at hl 4 rfl) ?_
        refine lv_aload_n hx hb dX3_getsMore_19 rfl (lv_at hl 2 rfl) ?_
        refine lv_iload hx hb dX3_getsMore_20 (lv_at hl 5 rfl) ?_
        obtain ⟨hi, hf⟩ := jx_gs hf
        refine va_lald hx hb hK hP 3 1 rfl rfl (jx_ip hi) dX3_getsMore_22 ?_
        clear hi
        refine lv_aload_n hx hb dX3_getsMore_23 rfl (lv_at hl 0 rfl) ?_
        refine va_get (D := D) (ci := 3) (v := .ref (a 9)) (C := RX3) (T := TX3) (N := 8) hx hb hts iw_X3_getsMore_X3 hown hK hP 0 rfl rfl 3 (by decide) (hts (.fieldLink RX3 22 "PassedDuties$Parts" "through" "[J") (by decide +kernel)) (fun _ h9 => h9) rfl dX3_getsMore_24 ?_
        refine lv_iload_n hx hb dX3_getsMore_27 rfl (lv_at hl 1 rfl) ?_
        refine lv_bipush (v := 8) hx hb dX3_getsMore_28 (by decide) ?_
        refine lv_imul hx hb dX3_getsMore_30 ?_
        refine lv_iload hx hb dX3_getsMore_31 (lv_at hl 5 rfl) ?_
        refine lv_iadd hx hb dX3_getsMore_33 ?_
        obtain ⟨hi, hf⟩ := jx_gs hf
        refine va_lald hx hb hK hP 2 1 rfl rfl (jx_ip hi) dX3_getsMore_34 ?_
        clear hi
        refine lv_land hx hb dX3_getsMore_35 ?_
        refine lv_lor hx hb dX3_getsMore_36 ?_
        refine lv_lstore (lv' := [(5, .long (s1.1 ||| ((ar (s1.2).toNatClampNeg) &&& (th (((p0 * (8 : Int32)) + s1.2)).toNatClampNeg)))), (0, .ref (a 5)), (1, .int p0), (2, .ref b), (3, .long (ar (p0).toNatClampNeg)), (7, .int s1.2)]) hx hb dX3_getsMore_37 hl (by decide) rfl (fun ls hl => ?_)
        refine lv_iinc (v := (s1.2 + (1 : Int32))) (lv' := [(7, .int (s1.2 + (1 : Int32))), (5, .long (s1.1 ||| ((ar (s1.2).toNatClampNeg) &&& (th (((p0 * (8 : Int32)) + s1.2)).toNatClampNeg)))), (0, .ref (a 5)), (1, .int p0), (2, .ref b), (3, .long (ar (p0).toNatClampNeg))]) hx hb dX3_getsMore_39 hl (k := 5) rfl rfl (by decide) rfl (fun ls hl => ?_)
        refine lv_goto (tgt := 10) hx hb dX3_getsMore_42 (by decide) ?_
        have he := jx_eq hf
        subst he
        exact ihk2 ((s1.1 ||| ((ar (s1.2).toNatClampNeg) &&& (th (((p0 * (8 : Int32)) + s1.2)).toNatClampNeg))), (s1.2 + (1 : Int32))) _ _ _ hgk2 hP hD hS (lv_sub hl [2, 3, 4, 5, 1, 0] rfl)
  exact hLk2 jx_F ((ar (p0).toNatClampNeg), (0 : Int32)) _ _ _ hf hP hD hS (lv_sub hl [3, 4, 5, 2, 1, 0] rfl)
theorem iw_X3_spread_X3 : ∀ w ∈ wsX30, w ∈ wsX3_spread := by decide +kernel
set_option maxHeartbeats 4000000 in
set_option maxRecDepth 100000 in
theorem c_X3_spread (l : Launch) (D : va_G) (a : Nat → Nat) (b : Nat) (cI cL : ClassId) (ow : (Nat → Int64)) (th : (Nat → Int64)) (tr : Int32) (tl : Int32) (ch : Int32) (ar : (Nat → Int64)) (p0 : Int32) (res : (Nat → Int64)) (hf : pf_X3_spread ow th ar p0 = some res) : jMv l yX3_spread wsX3_spread ({ frames := 1, cells := 0, slots := 0, locals := 27 }) D [(cI, .int), (cL, .long)] [.ref (a 5), .int p0, .ref b] (wSp a b cI cL ow th tr tl ch ar) (wSp a b cI cL ow th tr tl ch res) := by
  intro sz
  refine Met.ofW (cc := cX3_spread) (maxL := 6) (ret := none) (by decide) rfl ?_
  intro p e s m args below meth c s₁ B hml hv
  obtain ⟨rfl, hsz, hP, hK, hD0, hN⟩ := hv
  have hx := B.exec
  have hb := B.bytes
  have hr := B.returns
  have hts := atoms_spec (ws := wsX3_spread) B.pre
  have hown : s.vm.findClass RX3 = some m.cls := findClass_of_methodNamed B.named
  have hlocks := B.notSynchronized
  subst hsz
  have hD := hD0.self (sz := s.heap.size)
  generalize hAe : va_A (wSp a b cI cL ow th tr tl ch ar) s.heap.size = A at hD ⊢
  have hA : ∀ q : Nat, s.heap.size ≤ q → A q := fun q h => by rw [← hAe]; exact Or.inr h
  have hS : va_S A s.heap s.heap [] := va_S.rf
  have hl := lv_entry ([.ref (a 5), .int p0, .ref b]) (n := 6) (Nat.le_of_ble_eq_true rfl)
  rw [lg_entry_eq]
  generalize (lg_sl ([.ref (a 5), .int p0, .ref b]) ++ List.replicate (6 - (lg_sl ([.ref (a 5), .int p0, .ref b])).length) Slot.unset).toArray = ls at hl ⊢
  have hl : lv_has ls 6 [(0, .ref (a 5)), (1, .int p0), (2, .ref b)] := hl
  have hf : pf_X3_spread ow th ar p0 = some res := hf
  refine lv_iconst (v := 0) hx hb dX3_spread_0 (by decide) ?_
  refine lv_istore_n (lv' := [(3, .int (0 : Int32)), (0, .ref (a 5)), (1, .int p0), (2, .ref b)]) hx hb dX3_spread_1 rfl hl (by decide) rfl (fun ls hl => ?_)
  obtain ⟨k2, hf, hkk2⟩ := jx_bs hf
  have hXk2 : ∀ (H : Heap) (locs : List Loc) (ls : Array Slot), va_P D vwCl (wSp a b cI cL ow th tr tl ch k2) H → va_D A (wSp a b cI cL ow th tr tl ch k2) → va_S A s.heap H locs → lv_has ls 6 [(0, .ref (a 5)), (1, .int p0), (2, .ref b)] → jx_Wv p l e wsX3_spread ({ frames := 1, cells := 0, slots := 0, locals := 27 }) s m [.ref (a 5), .int p0, .ref b] below meth c D [(cI, .int), (cL, .long)] (wSp a b cI cL ow th tr tl ch res) A H locs (F0 m 36 ls []) := by
    clear hf hP hD hS hl
    intro H locs ls hP hD hS hl
    have hf := hkk2
    refine lv_iconst (v := 1) hx hb dX3_spread_36 (by decide) ?_
    refine lv_istore_n (lv' := [(3, .int (1 : Int32)), (0, .ref (a 5)), (1, .int p0), (2, .ref b)]) hx hb dX3_spread_37 rfl hl (by decide) rfl (fun ls hl => ?_)
    refine lv_iconst (v := 0) hx hb dX3_spread_38 (by decide) ?_
    refine lv_istore (lv' := [(4, .int (0 : Int32)), (3, .int (1 : Int32)), (0, .ref (a 5)), (1, .int p0), (2, .ref b)]) hx hb dX3_spread_39 hl (by decide) rfl (fun ls hl => ?_)
    obtain ⟨k7, hf, hkk7⟩ := jx_bs hf
    have hXk7 : ∀ (H : Heap) (locs : List Loc) (ls : Array Slot), va_P D vwCl (wSp a b cI cL ow th tr tl ch k7) H → va_D A (wSp a b cI cL ow th tr tl ch k7) → va_S A s.heap H locs → lv_has ls 6 [] → jx_Wv p l e wsX3_spread ({ frames := 1, cells := 0, slots := 0, locals := 27 }) s m [.ref (a 5), .int p0, .ref b] below meth c D [(cI, .int), (cL, .long)] (wSp a b cI cL ow th tr tl ch res) A H locs (F0 m 98 ls []) := by
      clear hf hP hD hS hl
      intro H locs ls hP hD hS hl
      have hf := hkk7
      have he := jx_eq hf
      subst he
      exact jx_retv hx hb hr hlocks hK hP hD hS dX3_spread_98
    have hLk7 : ∀ (n : Nat) (s6 : (Int32 × Int32 × (Nat → Int64))) (H : Heap) (locs : List Loc) (ls : Array Slot), jx_iter (pf_X3_spread_s2 th p0) n s6 = some k7 → va_P D vwCl (wSp a b cI cL ow th tr tl ch s6.2.2) H → va_D A (wSp a b cI cL ow th tr tl ch s6.2.2) → va_S A s.heap H locs → lv_has ls 6 [(0, .ref (a 5)), (1, .int p0), (2, .ref b), (3, .int s6.1), (4, .int s6.2.1)] → jx_Wv p l e wsX3_spread ({ frames := 1, cells := 0, slots := 0, locals := 27 }) s m [.ref (a 5), .int p0, .ref b] below meth c D [(cI, .int), (cL, .long)] (wSp a b cI cL ow th tr tl ch res) A H locs (F0 m 41 ls []) := by
      clear hf hP hD hS hl
      intro n
      induction n with
      | zero => intro s6 _ _ _ hf; cases hf
      | succ n ihk7 =>
        intro s6 H locs ls hf hP hD hS hl
        obtain ⟨q8, hf, hgk7⟩ := jx_bs hf
        refine lv_iload_n hx hb dX3_spread_41 rfl (lv_at hl 3 rfl) ?_
        refine lv_if_eq (tgt := 98) hx hb dX3_spread_42 (by decide) (fun hq => ?_) (fun hq => ?_)
        · replace hf := jx_pos hq hf
          have he := jx_eq hf
          subst he
          have he : _ = k7 := jx_eq hgk7
          subst he
          exact hXk7 _ _ _ hP hD hS (lv_sub hl [] rfl)
        · replace hf := jx_neg hq hf
          refine lv_iload hx hb dX3_spread_45 (lv_at hl 4 rfl) ?_
          refine lv_bipush (v := 8) hx hb dX3_spread_47 (by decide) ?_
          refine lv_icmp_ge (tgt := 98) hx hb dX3_spread_49 (by decide) (fun hq => ?_) (fun hq => ?_)
          · replace hf := jx_pos hq hf
            have he := jx_eq hf
            subst he
            have he : _ = k7 := jx_eq hgk7
            subst he
            exact hXk7 _ _ _ hP hD hS (lv_sub hl [] rfl)
          · replace hf := jx_neg hq hf
            refine lv_iconst (v := 0) hx hb dX3_spread_52 (by decide) ?_
            refine lv_istore_n (lv' := [(3, .int (0 : Int32)), (0, .ref (a 5)), (1, .int p0), (2, .ref b), (4, .int s6.2.1)]) hx hb dX3_spread_53 rfl hl (by decide) rfl (fun ls hl => ?_)
            refine lv_iconst (v := 0) hx hb dX3_spread_54 (by decide) ?_
            refine lv_istore (lv' := [(5, .int (0 : Int32)), (3, .int (0 : Int32)), (0, .ref (a 5)), (1, .int p0), (2, .ref b), (4, .int s6.2.1)]) hx hb dX3_spread_55 hl (by decide) rfl (fun ls hl => ?_)
            obtain ⟨k10, hf, hkk10⟩ := jx_bs hf
            have hXk10 : ∀ (H : Heap) (locs : List Loc) (ls : Array Slot), va_P D vwCl (wSp a b cI cL ow th tr tl ch k10.2) H → va_D A (wSp a b cI cL ow th tr tl ch k10.2) → va_S A s.heap H locs → lv_has ls 6 [(0, .ref (a 5)), (1, .int p0), (2, .ref b), (3, .int k10.1), (4, .int s6.2.1)] → jx_Wv p l e wsX3_spread ({ frames := 1, cells := 0, slots := 0, locals := 27 }) s m [.ref (a 5), .int p0, .ref b] below meth c D [(cI, .int), (cL, .long)] (wSp a b cI cL ow th tr tl ch res) A H locs (F0 m 92 ls []) := by
              clear hf hP hD hS hl
              intro H locs ls hP hD hS hl
              have hf := hkk10
              refine lv_iinc (v := (s6.2.1 + (1 : Int32))) (lv' := [(4, .int (s6.2.1 + (1 : Int32))), (0, .ref (a 5)), (1, .int p0), (2, .ref b), (3, .int k10.1)]) hx hb dX3_spread_92 hl (k := 4) rfl rfl (by decide) rfl (fun ls hl => ?_)
              refine lv_goto (tgt := 41) hx hb dX3_spread_95 (by decide) ?_
              have he := jx_eq hf
              subst he
              exact ihk7 (k10.1, (s6.2.1 + (1 : Int32)), k10.2) _ _ _ hgk7 hP hD hS (lv_sub hl [1, 2, 3, 4, 0] rfl)
            have hLk10 : ∀ (n : Nat) (s9 : (Int32 × Int32 × (Nat → Int64))) (H : Heap) (locs : List Loc) (ls : Array Slot), jx_iter (pf_X3_spread_s3 th p0) n s9 = some k10 → va_P D vwCl (wSp a b cI cL ow th tr tl ch s9.2.2) H → va_D A (wSp a b cI cL ow th tr tl ch s9.2.2) → va_S A s.heap H locs → lv_has ls 6 [(0, .ref (a 5)), (1, .int p0), (2, .ref b), (3, .int s9.1), (4, .int s6.2.1), (5, .int s9.2.1)] → jx_Wv p l e wsX3_spread ({ frames := 1, cells := 0, slots := 0, locals := 27 }) s m [.ref (a 5), .int p0, .ref b] below meth c D [(cI, .int), (cL, .long)] (wSp a b cI cL ow th tr tl ch res) A H locs (F0 m 57 ls []) := by
              clear hf hP hD hS hl
              intro n
              induction n with
              | zero => intro s9 _ _ _ hf; cases hf
              | succ n ihk10 =>
                intro s9 H locs ls hf hP hD hS hl
                obtain ⟨q11, hf, hgk10⟩ := jx_bs hf
                refine lv_iload hx hb dX3_spread_57 (lv_at hl 5 rfl) ?_
                refine lv_bipush (v := 8) hx hb dX3_spread_59 (by decide) ?_
                refine lv_icmp_ge (tgt := 92) hx hb dX3_spread_61 (by decide) (fun hq => ?_) (fun hq => ?_)
                · replace hf := jx_pos hq hf
                  have he := jx_eq hf
                  subst he
                  have he : _ = k10 := jx_eq hgk10
                  subst he
                  exact hXk10 _ _ _ hP hD hS (lv_sub hl [0, 1, 2, 3, 4] rfl)
                · replace hf := jx_neg hq hf
                  refine lv_iload_n hx hb dX3_spread_64 rfl (lv_at hl 1 rfl) ?_
                  refine lv_i2l (v := (p0).toInt64) hx hb dX3_spread_65 rfl ?_
                  refine lv_iload hx hb dX3_spread_66 (lv_at hl 5 rfl) ?_
                  obtain ⟨r12, hc, hf⟩ := jx_bs hf
                  refine jx_ki (wr := [((a 5), .inr (3, [.ref (a 6), .ref (a 7), .ref (a 8), .ref (a 9), .ref (a 10), .int tr, .int tl, .int ch])), ((a 7), .inl (cL, 8, .inr (.inl ow))), ((a 9), .inl (cL, 64, .inr (.inl th))), (b, .inl (cL, 8, .inr (.inl s9.2.2)))]) (ws2 := (wSp a b cI cL ow th tr tl ch s9.2.2)) (jx_runSN (As := [.long (p0).toInt64, .int s9.2.1]) (rest := []) ⟨hx, hb, hml, hown, hts⟩ (c_X6_isSet l D a cI cL (p0).toInt64 s9.2.1 r12 hc _) (va_cnB 2 hts gX3_spread_X6_isSet_n44 rfl rfl rfl (hN (.methodLinkNest "PassedDuties$Parts" 44 yX6_isSet "PassedDuties") (by decide +kernel)) (hts (.initialized RX6) (by decide +kernel)) (by decide +kernel) ⟨Nat.le_of_ble_eq_true rfl, Nat.le_of_ble_eq_true rfl⟩) (hts (.static yX6_isSet) (by decide +kernel)) hK hN hP hD [] rfl (by decide) rfl hl.1 rfl (Nat.le_of_ble_eq_true rfl) dX3_spread_68 ⟨Nat.le_of_ble_eq_true rfl, Nat.le_of_ble_eq_true rfl⟩) hP hD hS hA [] [0, 1, 2, 3] [0, 1, 2, 3] rfl rfl (by decide) (by decide) rfl (by decide) (fun H locs hP hD hS => ?_)
                  clear hc
                  obtain ⟨j13, hf, hkj13⟩ := jx_bs hf
                  have hJj13 : ∀ (H : Heap) (locs : List Loc) (ls : Array Slot), va_P D vwCl (wSp a b cI cL ow th tr tl ch j13.2) H → va_D A (wSp a b cI cL ow th tr tl ch j13.2) → va_S A s.heap H locs → lv_has ls 6 [(0, .ref (a 5)), (1, .int p0), (2, .ref b), (3, .int j13.1), (4, .int s6.2.1), (5, .int s9.2.1)] → jx_Wv p l e wsX3_spread ({ frames := 1, cells := 0, slots := 0, locals := 27 }) s m [.ref (a 5), .int p0, .ref b] below meth c D [(cI, .int), (cL, .long)] (wSp a b cI cL ow th tr tl ch res) A H locs (F0 m 86 ls []) := by
                    clear hf hP hD hS hl
                    intro H locs ls hP hD hS hl
                    have hf := hkj13
                    refine lv_iinc (v := (s9.2.1 + (1 : Int32))) (lv' := [(5, .int (s9.2.1 + (1 : Int32))), (0, .ref (a 5)), (1, .int p0), (2, .ref b), (3, .int j13.1), (4, .int s6.2.1)]) hx hb dX3_spread_86 hl (k := 5) rfl rfl (by decide) rfl (fun ls hl => ?_)
                    refine lv_goto (tgt := 57) hx hb dX3_spread_89 (by decide) ?_
                    have he := jx_eq hf
                    subst he
                    exact ihk10 (j13.1, (s9.2.1 + (1 : Int32)), j13.2) _ _ _ hgk10 hP hD hS (lv_sub hl [1, 2, 3, 4, 5, 0] rfl)
                  refine lv_if_eq (tgt := 86) hx hb dX3_spread_71 (by decide) (fun hq => ?_) (fun hq => ?_)
                  · replace hf := jx_pos hq hf
                    have he := jx_eq hf
                    subst he
                    exact hJj13 _ _ _ hP hD hS (lv_sub hl [0, 1, 2, 3, 4, 5] rfl)
                  · replace hf := jx_neg hq hf
                    refine lv_aload_n hx hb dX3_spread_74 rfl (lv_at hl 0 rfl) ?_
                    refine lv_iload hx hb dX3_spread_75 (lv_at hl 5 rfl) ?_
                    refine lv_aload_n hx hb dX3_spread_77 rfl (lv_at hl 2 rfl) ?_
                    obtain ⟨r14, hc, hf⟩ := jx_bs hf
                    refine jx_ki (wr := []) (ws2 := (wSp a b cI cL ow th tr tl ch r14.2)) (jx_runV (As := [.int s9.2.1, .ref b]) (rest := []) ⟨hx, hb, hml, hown, hts⟩ (c_X3_getsMore l D a b cI cL ow th tr tl ch s9.2.2 s9.2.1 r14 hc _) (cwV 2 hts gX3_spread_X3_getsMore rfl rfl rfl (by decide +kernel) ⟨Nat.le_of_ble_eq_true rfl, Nat.le_of_ble_eq_true rfl⟩) hK hN hP hD [0, 1, 2, 3] rfl (by decide) 0 3 rfl rfl rfl hl.1 rfl (Nat.le_of_ble_eq_true rfl) dX3_spread_78 ⟨Nat.le_of_ble_eq_true rfl, Nat.le_of_ble_eq_true rfl⟩) hP hD hS hA [0, 1, 2, 3] [] [0, 1, 2, 3] rfl rfl (by decide) (by decide) rfl (by decide) (fun H locs hP hD hS => ?_)
                    clear hc
                    refine lv_if_eq (tgt := 86) hx hb dX3_spread_81 (by decide) (fun hq => ?_) (fun hq => ?_)
                    · replace hf := jx_pos hq hf
                      have he := jx_eq hf
                      subst he
                      exact hJj13 _ _ _ hP hD hS (lv_sub hl [0, 1, 2, 3, 4, 5] rfl)
                    · replace hf := jx_neg hq hf
                      refine lv_iconst (v := 1) hx hb dX3_spread_84 (by decide) ?_
                      refine lv_istore_n (lv' := [(3, .int (1 : Int32)), (0, .ref (a 5)), (1, .int p0), (2, .ref b), (4, .int s6.2.1), (5, .int s9.2.1)]) hx hb dX3_spread_85 rfl hl (by decide) rfl (fun ls hl => ?_)
                      have he := jx_eq hf
                      subst he
                      exact hJj13 _ _ _ hP hD hS (lv_sub hl [1, 2, 3, 0, 4, 5] rfl)
            exact hLk10 jx_F ((0 : Int32), (0 : Int32), s6.2.2) _ _ _ hf hP hD hS (lv_sub hl [2, 3, 4, 1, 5, 0] rfl)
    exact hLk7 jx_F ((1 : Int32), (0 : Int32), k2) _ _ _ hf hP hD hS (lv_sub hl [2, 3, 4, 1, 0] rfl)
  have hLk2 : ∀ (n : Nat) (s1 : (Int32 × (Nat → Int64))) (H : Heap) (locs : List Loc) (ls : Array Slot), jx_iter (pf_X3_spread_s1 ow p0) n s1 = some k2 → va_P D vwCl (wSp a b cI cL ow th tr tl ch s1.2) H → va_D A (wSp a b cI cL ow th tr tl ch s1.2) → va_S A s.heap H locs → lv_has ls 6 [(0, .ref (a 5)), (1, .int p0), (2, .ref b), (3, .int s1.1)] → jx_Wv p l e wsX3_spread ({ frames := 1, cells := 0, slots := 0, locals := 27 }) s m [.ref (a 5), .int p0, .ref b] below meth c D [(cI, .int), (cL, .long)] (wSp a b cI cL ow th tr tl ch res) A H locs (F0 m 2 ls []) := by
    clear hf hP hD hS hl
    intro n
    induction n with
    | zero => intro s1 _ _ _ hf; cases hf
    | succ n ihk2 =>
      intro s1 H locs ls hf hP hD hS hl
      obtain ⟨q3, hf, hgk2⟩ := jx_bs hf
      refine lv_iload_n hx hb dX3_spread_2 rfl (lv_at hl 3 rfl) ?_
      refine lv_bipush (v := 8) hx hb dX3_spread_3 (by decide) ?_
      refine lv_icmp_ge (tgt := 36) hx hb dX3_spread_5 (by decide) (fun hq => ?_) (fun hq => ?_)
      · replace hf := jx_pos hq hf
        have he := jx_eq hf
        subst he
        have he : _ = k2 := jx_eq hgk2
        subst he
        exact hXk2 _ _ _ hP hD hS (lv_sub hl [0, 1, 2] rfl)
      · replace hf := jx_neg hq hf
        refine lv_aload_n hx hb dX3_spread_8 rfl (lv_at hl 2 rfl) ?_
        refine lv_iload_n hx hb dX3_spread_9 rfl (lv_at hl 3 rfl) ?_
        refine lv_iload_n hx hb dX3_spread_10 rfl (lv_at hl 1 rfl) ?_
        refine lv_i2l (v := (p0).toInt64) hx hb dX3_spread_11 rfl ?_
        refine lv_iload_n hx hb dX3_spread_12 rfl (lv_at hl 3 rfl) ?_
        obtain ⟨r4, hc, hf⟩ := jx_bs hf
        refine jx_ki (wr := [((a 5), .inr (3, [.ref (a 6), .ref (a 7), .ref (a 8), .ref (a 9), .ref (a 10), .int tr, .int tl, .int ch])), ((a 7), .inl (cL, 8, .inr (.inl ow))), ((a 9), .inl (cL, 64, .inr (.inl th))), (b, .inl (cL, 8, .inr (.inl s1.2)))]) (ws2 := (wSp a b cI cL ow th tr tl ch s1.2)) (jx_runSN (As := [.long (p0).toInt64, .int s1.1]) (rest := [.int s1.1, .ref b]) ⟨hx, hb, hml, hown, hts⟩ (c_X6_isSet l D a cI cL (p0).toInt64 s1.1 r4 hc _) (va_cnB 2 hts gX3_spread_X6_isSet_n44 rfl rfl rfl (hN (.methodLinkNest "PassedDuties$Parts" 44 yX6_isSet "PassedDuties") (by decide +kernel)) (hts (.initialized RX6) (by decide +kernel)) (by decide +kernel) ⟨Nat.le_of_ble_eq_true rfl, Nat.le_of_ble_eq_true rfl⟩) (hts (.static yX6_isSet) (by decide +kernel)) hK hN hP hD [] rfl (by decide) rfl hl.1 rfl (Nat.le_of_ble_eq_true rfl) dX3_spread_13 ⟨Nat.le_of_ble_eq_true rfl, Nat.le_of_ble_eq_true rfl⟩) hP hD hS hA [] [0, 1, 2, 3] [0, 1, 2, 3] rfl rfl (by decide) (by decide) rfl (by decide) (fun H locs hP hD hS => ?_)
        clear hc
        obtain ⟨j5, hf, hkj5⟩ := jx_bs hf
        have hJj5 : ∀ (H : Heap) (locs : List Loc) (ls : Array Slot), va_P D vwCl (wSp a b cI cL ow th tr tl ch s1.2) H → va_D A (wSp a b cI cL ow th tr tl ch s1.2) → va_S A s.heap H locs → lv_has ls 6 [(0, .ref (a 5)), (1, .int p0), (2, .ref b), (3, .int s1.1)] → jx_Wv p l e wsX3_spread ({ frames := 1, cells := 0, slots := 0, locals := 27 }) s m [.ref (a 5), .int p0, .ref b] below meth c D [(cI, .int), (cL, .long)] (wSp a b cI cL ow th tr tl ch res) A H locs (F0 m 29 ls [.long j5, .int s1.1, .ref b]) := by
          clear hf hP hD hS hl
          intro H locs ls hP hD hS hl
          have hf := hkj5
          obtain ⟨hi, hf⟩ := jx_gs hf
          refine va_last hx hb hK hP hD hS 3 1 rfl rfl (jx_ip hi) dX3_spread_29 (fun H locs hP hD hS => ?_)
          clear hi
          have hP : va_P D vwCl (wSp a b cI cL ow th tr tl ch (vp_updL s1.2 (s1.1).toNatClampNeg j5)) H := hP
          have hD : va_D A (wSp a b cI cL ow th tr tl ch (vp_updL s1.2 (s1.1).toNatClampNeg j5)) := hD
          refine lv_iinc (v := (s1.1 + (1 : Int32))) (lv' := [(3, .int (s1.1 + (1 : Int32))), (0, .ref (a 5)), (1, .int p0), (2, .ref b)]) hx hb dX3_spread_30 hl (k := 3) rfl rfl (by decide) rfl (fun ls hl => ?_)
          refine lv_goto (tgt := 2) hx hb dX3_spread_33 (by decide) ?_
          have he := jx_eq hf
          subst he
          exact ihk2 ((s1.1 + (1 : Int32)), (vp_updL s1.2 (s1.1).toNatClampNeg j5)) _ _ _ hgk2 hP hD hS (lv_sub hl [1, 2, 3, 0] rfl)
        refine lv_if_eq (tgt := 28) hx hb dX3_spread_16 (by decide) (fun hq => ?_) (fun hq => ?_)
        · replace hf := jx_pos hq hf
          refine lv_lconst (v := 0) hx hb dX3_spread_28 (by decide) ?_
          have he := jx_eq hf
          subst he
          exact hJj5 _ _ _ hP hD hS (lv_sub hl [0, 1, 2, 3] rfl)
        · replace hf := jx_neg hq hf
          refine lv_aload_n hx hb dX3_spread_19 rfl (lv_at hl 0 rfl) ?_
          refine va_get (D := D) (ci := 3) (v := .ref (a 7)) (C := RX3) (T := TX3) (N := 8) hx hb hts iw_X3_spread_X3 hown hK hP 0 rfl rfl 1 (by decide) (hts (.fieldLink RX3 15 "PassedDuties$Parts" "own" "[J") (by decide +kernel)) (fun _ h9 => h9) rfl dX3_spread_20 ?_
          refine lv_iload_n hx hb dX3_spread_23 rfl (lv_at hl 3 rfl) ?_
          obtain ⟨hi, hf⟩ := jx_gs hf
          refine va_lald hx hb hK hP 1 1 rfl rfl (jx_ip hi) dX3_spread_24 ?_
          clear hi
          refine lv_goto (tgt := 29) hx hb dX3_spread_25 (by decide) ?_
          have he := jx_eq hf
          subst he
          exact hJj5 _ _ _ hP hD hS (lv_sub hl [0, 1, 2, 3] rfl)
  exact hLk2 jx_F ((0 : Int32), ar) _ _ _ hf hP hD hS (lv_sub hl [1, 2, 3, 0] rfl)
theorem iw_X3_has_X3 : ∀ w ∈ wsX30, w ∈ wsX3_has := by decide +kernel
set_option maxHeartbeats 4000000 in
set_option maxRecDepth 100000 in
theorem c_X3_has (l : Launch) (D : va_G) (a : Nat → Nat) (cI cL : ClassId) (un : (Nat → Int32)) (ow : (Nat → Int64)) (ki : (Nat → Int32)) (th : (Nat → Int64)) (cm : (Nat → Int64)) (tr : Int32) (tl : Int32) (ch : Int32) (p0 : Int32) (res : Int32) (hf : pf_X3_has tr p0 = some res) : jMi l yX3_has wsX3_has ({ frames := 1, cells := 0, slots := 0, locals := 22 }) D [(cI, .int), (cL, .long)] [.ref (a 5), .int p0] (wPt a cI cL un ow ki th cm tr tl ch) res (wPt a cI cL un ow ki th cm tr tl ch) := by
  intro sz
  refine Met.ofW (cc := cX3_has) (maxL := 2) (ret := (some .boolean)) (by decide) rfl ?_
  intro p e s m args below meth c s₁ B hml hv
  obtain ⟨rfl, hsz, hP, hK, hD0, hN⟩ := hv
  have hx := B.exec
  have hb := B.bytes
  have hr := B.returns
  have hts := atoms_spec (ws := wsX3_has) B.pre
  have hown : s.vm.findClass RX3 = some m.cls := findClass_of_methodNamed B.named
  have hlocks := B.notSynchronized
  subst hsz
  have hD := hD0.self (sz := s.heap.size)
  generalize hAe : va_A (wPt a cI cL un ow ki th cm tr tl ch) s.heap.size = A at hD ⊢
  have hA : ∀ q : Nat, s.heap.size ≤ q → A q := fun q h => by rw [← hAe]; exact Or.inr h
  have hS : va_S A s.heap s.heap [] := va_S.rf
  have hl := lv_entry ([.ref (a 5), .int p0]) (n := 2) (Nat.le_of_ble_eq_true rfl)
  rw [lg_entry_eq]
  generalize (lg_sl ([.ref (a 5), .int p0]) ++ List.replicate (2 - (lg_sl ([.ref (a 5), .int p0])).length) Slot.unset).toArray = ls at hl ⊢
  have hl : lv_has ls 2 [(0, .ref (a 5)), (1, .int p0)] := hl
  have hf : pf_X3_has tr p0 = some res := hf
  refine lv_iload_n hx hb dX3_has_0 rfl (lv_at hl 1 rfl) ?_
  refine lv_if_lt (tgt := 26) hx hb dX3_has_1 (by decide) (fun hq => ?_) (fun hq => ?_)
  · replace hf := jx_pos hq hf
    refine lv_iconst (v := 0) hx hb dX3_has_26 (by decide) ?_
    have he := jx_eq hf
    subst he
    exact jx_retz hx hb hr hlocks narrow_b0 rfl hK hP hD hS dX3_has_27
  · replace hf := jx_neg hq hf
    refine lv_iload_n hx hb dX3_has_4 rfl (lv_at hl 1 rfl) ?_
    refine lv_bipush (v := 8) hx hb dX3_has_5 (by decide) ?_
    refine lv_icmp_ge (tgt := 26) hx hb dX3_has_7 (by decide) (fun hq => ?_) (fun hq => ?_)
    · replace hf := jx_pos hq hf
      refine lv_iconst (v := 0) hx hb dX3_has_26 (by decide) ?_
      have he := jx_eq hf
      subst he
      exact jx_retz hx hb hr hlocks narrow_b0 rfl hK hP hD hS dX3_has_27
    · replace hf := jx_neg hq hf
      refine lv_aload_n hx hb dX3_has_10 rfl (lv_at hl 0 rfl) ?_
      refine va_get (D := D) (ci := 3) (v := .int tr) (C := RX3) (T := TX3) (N := 8) hx hb hts iw_X3_has_X3 hown hK hP 0 rfl rfl 5 (by decide) (hts (.fieldLink RX3 28 "PassedDuties$Parts" "there" "I") (by decide +kernel)) (fun _ h9 => h9) rfl dX3_has_11 ?_
      refine lv_i2l (v := (tr).toInt64) hx hb dX3_has_14 rfl ?_
      refine lv_iload_n hx hb dX3_has_15 rfl (lv_at hl 1 rfl) ?_
      obtain ⟨r1, hc, hf⟩ := jx_bs hf
      refine jx_ki (wr := [((a 5), .inr (3, [.ref (a 6), .ref (a 7), .ref (a 8), .ref (a 9), .ref (a 10), .int tr, .int tl, .int ch])), ((a 6), .inl (cI, 8, .inl un)), ((a 7), .inl (cL, 8, .inr (.inl ow))), ((a 8), .inl (cI, 64, .inl ki)), ((a 9), .inl (cL, 64, .inr (.inl th))), ((a 10), .inl (cL, 8, .inr (.inl cm)))]) (ws2 := (wPt a cI cL un ow ki th cm tr tl ch)) (jx_runSN (As := [.long (tr).toInt64, .int p0]) (rest := []) ⟨hx, hb, hml, hown, hts⟩ (c_X6_isSet l D a cI cL (tr).toInt64 p0 r1 hc _) (va_cnB 2 hts gX3_has_X6_isSet_n44 rfl rfl rfl (hN (.methodLinkNest "PassedDuties$Parts" 44 yX6_isSet "PassedDuties") (by decide +kernel)) (hts (.initialized RX6) (by decide +kernel)) (by decide +kernel) ⟨Nat.le_of_ble_eq_true rfl, Nat.le_of_ble_eq_true rfl⟩) (hts (.static yX6_isSet) (by decide +kernel)) hK hN hP hD [] rfl (by decide) rfl hl.1 rfl (Nat.le_of_ble_eq_true rfl) dX3_has_16 ⟨Nat.le_of_ble_eq_true rfl, Nat.le_of_ble_eq_true rfl⟩) hP hD hS hA [] [0, 1, 2, 3, 4, 5] [0, 1, 2, 3, 4, 5] rfl rfl (by decide) (by decide) rfl (by decide) (fun H locs hP hD hS => ?_)
      clear hc
      refine lv_if_eq (tgt := 26) hx hb dX3_has_19 (by decide) (fun hq => ?_) (fun hq => ?_)
      · replace hf := jx_pos hq hf
        refine lv_iconst (v := 0) hx hb dX3_has_26 (by decide) ?_
        have he := jx_eq hf
        subst he
        exact jx_retz hx hb hr hlocks narrow_b0 rfl hK hP hD hS dX3_has_27
      · replace hf := jx_neg hq hf
        refine lv_iconst (v := 1) hx hb dX3_has_22 (by decide) ?_
        refine lv_goto (tgt := 27) hx hb dX3_has_23 (by decide) ?_
        have he := jx_eq hf
        subst he
        exact jx_retz hx hb hr hlocks narrow_b1 rfl hK hP hD hS dX3_has_27
theorem iw_X3_kindOf_X3 : ∀ w ∈ wsX30, w ∈ wsX3_kindOf := by decide +kernel
set_option maxHeartbeats 4000000 in
set_option maxRecDepth 100000 in
theorem c_X3_kindOf (l : Launch) (D : va_G) (a : Nat → Nat) (cI cL : ClassId) (un : (Nat → Int32)) (ow : (Nat → Int64)) (ki : (Nat → Int32)) (th : (Nat → Int64)) (cm : (Nat → Int64)) (tr : Int32) (tl : Int32) (ch : Int32) (p0 : Int32) (p1 : Int32) (res : Int32) (hf : pf_X3_kindOf ki p0 p1 = some res) : jMi l yX3_kindOf wsX3_kindOf ({ frames := 0, cells := 0, slots := 0, locals := 0 }) D [(cI, .int), (cL, .long)] [.ref (a 5), .int p0, .int p1] (wPt a cI cL un ow ki th cm tr tl ch) res (wPt a cI cL un ow ki th cm tr tl ch) := by
  intro sz
  refine Met.ofW (cc := cX3_kindOf) (maxL := 3) (ret := (some .int)) (by decide) rfl ?_
  intro p e s m args below meth c s₁ B hml hv
  obtain ⟨rfl, hsz, hP, hK, hD0, hN⟩ := hv
  have hx := B.exec
  have hb := B.bytes
  have hr := B.returns
  have hts := atoms_spec (ws := wsX3_kindOf) B.pre
  have hown : s.vm.findClass RX3 = some m.cls := findClass_of_methodNamed B.named
  have hlocks := B.notSynchronized
  subst hsz
  have hD := hD0.self (sz := s.heap.size)
  generalize hAe : va_A (wPt a cI cL un ow ki th cm tr tl ch) s.heap.size = A at hD ⊢
  have hA : ∀ q : Nat, s.heap.size ≤ q → A q := fun q h => by rw [← hAe]; exact Or.inr h
  have hS : va_S A s.heap s.heap [] := va_S.rf
  have hl := lv_entry ([.ref (a 5), .int p0, .int p1]) (n := 3) (Nat.le_of_ble_eq_true rfl)
  rw [lg_entry_eq]
  generalize (lg_sl ([.ref (a 5), .int p0, .int p1]) ++ List.replicate (3 - (lg_sl ([.ref (a 5), .int p0, .int p1])).length) Slot.unset).toArray = ls at hl ⊢
  have hl : lv_has ls 3 [(0, .ref (a 5)), (1, .int p0), (2, .int p1)] := hl
  have hf : pf_X3_kindOf ki p0 p1 = some res := hf
  refine lv_aload_n hx hb dX3_kindOf_0 rfl (lv_at hl 0 rfl) ?_
  refine va_get (D := D) (ci := 3) (v := .ref (a 8)) (C := RX3) (T := TX3) (N := 8) hx hb hts iw_X3_kindOf_X3 hown hK hP 0 rfl rfl 2 (by decide) (hts (.fieldLink RX3 19 "PassedDuties$Parts" "kinds" "[I") (by decide +kernel)) (fun _ h9 => h9) rfl dX3_kindOf_1 ?_
  refine lv_iload_n hx hb dX3_kindOf_4 rfl (lv_at hl 1 rfl) ?_
  refine lv_bipush (v := 8) hx hb dX3_kindOf_5 (by decide) ?_
  refine lv_imul hx hb dX3_kindOf_7 ?_
  refine lv_iload_n hx hb dX3_kindOf_8 rfl (lv_at hl 2 rfl) ?_
  refine lv_iadd hx hb dX3_kindOf_9 ?_
  obtain ⟨hi, hf⟩ := jx_gs hf
  refine va_iald hx hb hK hP 3 0 rfl rfl (jx_ip hi) dX3_kindOf_10 ?_
  clear hi
  have he := jx_eq hf
  subst he
  exact jx_reti hx hb hr hlocks rfl hK hP hD hS dX3_kindOf_11
set_option maxHeartbeats 4000000 in
set_option maxRecDepth 100000 in
theorem c_X3_joinsFrom (l : Launch) (D : va_G) (a : Nat → Nat) (cI cL : ClassId) (un : (Nat → Int32)) (ow : (Nat → Int64)) (ki : (Nat → Int32)) (th : (Nat → Int64)) (cm : (Nat → Int64)) (tr : Int32) (tl : Int32) (ch : Int32) (p0 : Int32) (res : Int32) (hf : pf_X3_joinsFrom ki p0 = some res) : jMi l yX3_joinsFrom wsX3_joinsFrom ({ frames := 1, cells := 0, slots := 0, locals := 22 }) D [(cI, .int), (cL, .long)] [.ref (a 5), .int p0] (wPt a cI cL un ow ki th cm tr tl ch) res (wPt a cI cL un ow ki th cm tr tl ch) := by
  intro sz
  refine Met.ofW (cc := cX3_joinsFrom) (maxL := 4) (ret := (some .int)) (by decide) rfl ?_
  intro p e s m args below meth c s₁ B hml hv
  obtain ⟨rfl, hsz, hP, hK, hD0, hN⟩ := hv
  have hx := B.exec
  have hb := B.bytes
  have hr := B.returns
  have hts := atoms_spec (ws := wsX3_joinsFrom) B.pre
  have hown : s.vm.findClass RX3 = some m.cls := findClass_of_methodNamed B.named
  have hlocks := B.notSynchronized
  subst hsz
  have hD := hD0.self (sz := s.heap.size)
  generalize hAe : va_A (wPt a cI cL un ow ki th cm tr tl ch) s.heap.size = A at hD ⊢
  have hA : ∀ q : Nat, s.heap.size ≤ q → A q := fun q h => by rw [← hAe]; exact Or.inr h
  have hS : va_S A s.heap s.heap [] := va_S.rf
  have hl := lv_entry ([.ref (a 5), .int p0]) (n := 4) (Nat.le_of_ble_eq_true rfl)
  rw [lg_entry_eq]
  generalize (lg_sl ([.ref (a 5), .int p0]) ++ List.replicate (4 - (lg_sl ([.ref (a 5), .int p0])).length) Slot.unset).toArray = ls at hl ⊢
  have hl : lv_has ls 4 [(0, .ref (a 5)), (1, .int p0)] := hl
  have hf : pf_X3_joinsFrom ki p0 = some res := hf
  refine lv_iconst (v := 0) hx hb dX3_joinsFrom_0 (by decide) ?_
  refine lv_istore_n (lv' := [(2, .int (0 : Int32)), (0, .ref (a 5)), (1, .int p0)]) hx hb dX3_joinsFrom_1 rfl hl (by decide) rfl (fun ls hl => ?_)
  refine lv_iconst (v := 0) hx hb dX3_joinsFrom_2 (by decide) ?_
  refine lv_istore_n (lv' := [(3, .int (0 : Int32)), (2, .int (0 : Int32)), (0, .ref (a 5)), (1, .int p0)]) hx hb dX3_joinsFrom_3 rfl hl (by decide) rfl (fun ls hl => ?_)
  obtain ⟨k2, hf, hkk2⟩ := jx_bs hf
  have hXk2 : ∀ (H : Heap) (locs : List Loc) (ls : Array Slot), va_P D vwCl (wPt a cI cL un ow ki th cm tr tl ch) H → va_D A (wPt a cI cL un ow ki th cm tr tl ch) → va_S A s.heap H locs → lv_has ls 4 [(2, .int k2)] → jx_Wi p l e wsX3_joinsFrom ({ frames := 1, cells := 0, slots := 0, locals := 22 }) s m [.ref (a 5), .int p0] below meth c D [(cI, .int), (cL, .long)] res (wPt a cI cL un ow ki th cm tr tl ch) A H locs (F0 m 34 ls []) := by
    clear hf hP hD hS hl
    intro H locs ls hP hD hS hl
    have hf := hkk2
    refine lv_iload_n hx hb dX3_joinsFrom_34 rfl (lv_at hl 0 rfl) ?_
    have he := jx_eq hf
    subst he
    exact jx_reti hx hb hr hlocks rfl hK hP hD hS dX3_joinsFrom_35
  have hLk2 : ∀ (n : Nat) (s1 : (Int32 × Int32)) (H : Heap) (locs : List Loc) (ls : Array Slot), jx_iter (pf_X3_joinsFrom_s1 ki p0) n s1 = some k2 → va_P D vwCl (wPt a cI cL un ow ki th cm tr tl ch) H → va_D A (wPt a cI cL un ow ki th cm tr tl ch) → va_S A s.heap H locs → lv_has ls 4 [(0, .ref (a 5)), (1, .int p0), (2, .int s1.1), (3, .int s1.2)] → jx_Wi p l e wsX3_joinsFrom ({ frames := 1, cells := 0, slots := 0, locals := 22 }) s m [.ref (a 5), .int p0] below meth c D [(cI, .int), (cL, .long)] res (wPt a cI cL un ow ki th cm tr tl ch) A H locs (F0 m 4 ls []) := by
    clear hf hP hD hS hl
    intro n
    induction n with
    | zero => intro s1 _ _ _ hf; cases hf
    | succ n ihk2 =>
      intro s1 H locs ls hf hP hD hS hl
      obtain ⟨q3, hf, hgk2⟩ := jx_bs hf
      refine lv_iload_n hx hb dX3_joinsFrom_4 rfl (lv_at hl 3 rfl) ?_
      refine lv_bipush (v := 8) hx hb dX3_joinsFrom_5 (by decide) ?_
      refine lv_icmp_ge (tgt := 34) hx hb dX3_joinsFrom_7 (by decide) (fun hq => ?_) (fun hq => ?_)
      · replace hf := jx_pos hq hf
        have he := jx_eq hf
        subst he
        have he : _ = k2 := jx_eq hgk2
        subst he
        exact hXk2 _ _ _ hP hD hS (lv_sub hl [2] rfl)
      · replace hf := jx_neg hq hf
        refine lv_iload_n hx hb dX3_joinsFrom_10 rfl (lv_at hl 2 rfl) ?_
        refine lv_aload_n hx hb dX3_joinsFrom_11 rfl (lv_at hl 0 rfl) ?_
        refine lv_iload_n hx hb dX3_joinsFrom_12 rfl (lv_at hl 1 rfl) ?_
        refine lv_iload_n hx hb dX3_joinsFrom_13 rfl (lv_at hl 3 rfl) ?_
        obtain ⟨r4, hc, hf⟩ := jx_bs hf
        refine jx_ki (wr := []) (ws2 := (wPt a cI cL un ow ki th cm tr tl ch)) (jx_runV (As := [.int p0, .int s1.2]) (rest := [.int s1.1]) ⟨hx, hb, hml, hown, hts⟩ (c_X3_kindOf l D a cI cL un ow ki th cm tr tl ch p0 s1.2 r4 hc _) (cwV 2 hts gX3_joinsFrom_X3_kindOf rfl rfl rfl (by decide +kernel) ⟨Nat.le_of_ble_eq_true rfl, Nat.le_of_ble_eq_true rfl⟩) hK hN hP hD [0, 1, 2, 3, 4, 5] rfl (by decide) 0 3 rfl rfl rfl hl.1 rfl (Nat.le_of_ble_eq_true rfl) dX3_joinsFrom_14 ⟨Nat.le_of_ble_eq_true rfl, Nat.le_of_ble_eq_true rfl⟩) hP hD hS hA [0, 1, 2, 3, 4, 5] [] [0, 1, 2, 3, 4, 5] rfl rfl (by decide) (by decide) rfl (by decide) (fun H locs hP hD hS => ?_)
        clear hc
        refine lv_iconst (v := -1) hx hb dX3_joinsFrom_17 (by decide) ?_
        obtain ⟨j5, hf, hkj5⟩ := jx_bs hf
        have hJj5 : ∀ (H : Heap) (locs : List Loc) (ls : Array Slot), va_P D vwCl (wPt a cI cL un ow ki th cm tr tl ch) H → va_D A (wPt a cI cL un ow ki th cm tr tl ch) → va_S A s.heap H locs → lv_has ls 4 [(0, .ref (a 5)), (1, .int p0), (3, .int s1.2)] → jx_Wi p l e wsX3_joinsFrom ({ frames := 1, cells := 0, slots := 0, locals := 22 }) s m [.ref (a 5), .int p0] below meth c D [(cI, .int), (cL, .long)] res (wPt a cI cL un ow ki th cm tr tl ch) A H locs (F0 m 26 ls [.int j5, .int s1.1]) := by
          clear hf hP hD hS hl
          intro H locs ls hP hD hS hl
          have hf := hkj5
          refine lv_iadd hx hb dX3_joinsFrom_26 ?_
          refine lv_istore_n (lv' := [(2, .int (s1.1 + j5)), (0, .ref (a 5)), (1, .int p0), (3, .int s1.2)]) hx hb dX3_joinsFrom_27 rfl hl (by decide) rfl (fun ls hl => ?_)
          refine lv_iinc (v := (s1.2 + (1 : Int32))) (lv' := [(3, .int (s1.2 + (1 : Int32))), (2, .int (s1.1 + j5)), (0, .ref (a 5)), (1, .int p0)]) hx hb dX3_joinsFrom_28 hl (k := 3) rfl rfl (by decide) rfl (fun ls hl => ?_)
          refine lv_goto (tgt := 4) hx hb dX3_joinsFrom_31 (by decide) ?_
          have he := jx_eq hf
          subst he
          exact ihk2 ((s1.1 + j5), (s1.2 + (1 : Int32))) _ _ _ hgk2 hP hD hS (lv_sub hl [2, 3, 1, 0] rfl)
        refine lv_icmp_ne (tgt := 25) hx hb dX3_joinsFrom_18 (by decide) (fun hq => ?_) (fun hq => ?_)
        · replace hf := jx_pos hq hf
          refine lv_iconst (v := 1) hx hb dX3_joinsFrom_25 (by decide) ?_
          have he := jx_eq hf
          subst he
          exact hJj5 _ _ _ hP hD hS (lv_sub hl [0, 1, 3] rfl)
        · replace hf := jx_negn hq hf
          refine lv_iconst (v := 0) hx hb dX3_joinsFrom_21 (by decide) ?_
          refine lv_goto (tgt := 26) hx hb dX3_joinsFrom_22 (by decide) ?_
          have he := jx_eq hf
          subst he
          exact hJj5 _ _ _ hP hD hS (lv_sub hl [0, 1, 3] rfl)
  exact hLk2 jx_F ((0 : Int32), (0 : Int32)) _ _ _ hf hP hD hS (lv_sub hl [2, 3, 1, 0] rfl)
set_option maxHeartbeats 4000000 in
set_option maxRecDepth 100000 in
theorem c_X3_joins (l : Launch) (D : va_G) (a : Nat → Nat) (cI cL : ClassId) (un : (Nat → Int32)) (ow : (Nat → Int64)) (ki : (Nat → Int32)) (th : (Nat → Int64)) (cm : (Nat → Int64)) (tr : Int32) (tl : Int32) (ch : Int32) (res : Int32) (hf : pf_X3_joins ki = some res) : jMi l yX3_joins wsX3_joins ({ frames := 2, cells := 0, slots := 0, locals := 45 }) D [(cI, .int), (cL, .long)] [.ref (a 5)] (wPt a cI cL un ow ki th cm tr tl ch) res (wPt a cI cL un ow ki th cm tr tl ch) := by
  intro sz
  refine Met.ofW (cc := cX3_joins) (maxL := 3) (ret := (some .int)) (by decide) rfl ?_
  intro p e s m args below meth c s₁ B hml hv
  obtain ⟨rfl, hsz, hP, hK, hD0, hN⟩ := hv
  have hx := B.exec
  have hb := B.bytes
  have hr := B.returns
  have hts := atoms_spec (ws := wsX3_joins) B.pre
  have hown : s.vm.findClass RX3 = some m.cls := findClass_of_methodNamed B.named
  have hlocks := B.notSynchronized
  subst hsz
  have hD := hD0.self (sz := s.heap.size)
  generalize hAe : va_A (wPt a cI cL un ow ki th cm tr tl ch) s.heap.size = A at hD ⊢
  have hA : ∀ q : Nat, s.heap.size ≤ q → A q := fun q h => by rw [← hAe]; exact Or.inr h
  have hS : va_S A s.heap s.heap [] := va_S.rf
  have hl := lv_entry ([.ref (a 5)]) (n := 3) (Nat.le_of_ble_eq_true rfl)
  rw [lg_entry_eq]
  generalize (lg_sl ([.ref (a 5)]) ++ List.replicate (3 - (lg_sl ([.ref (a 5)])).length) Slot.unset).toArray = ls at hl ⊢
  have hl : lv_has ls 3 [(0, .ref (a 5))] := hl
  have hf : pf_X3_joins ki = some res := hf
  refine lv_iconst (v := 0) hx hb dX3_joins_0 (by decide) ?_
  refine lv_istore_n (lv' := [(1, .int (0 : Int32)), (0, .ref (a 5))]) hx hb dX3_joins_1 rfl hl (by decide) rfl (fun ls hl => ?_)
  refine lv_iconst (v := 0) hx hb dX3_joins_2 (by decide) ?_
  refine lv_istore_n (lv' := [(2, .int (0 : Int32)), (1, .int (0 : Int32)), (0, .ref (a 5))]) hx hb dX3_joins_3 rfl hl (by decide) rfl (fun ls hl => ?_)
  obtain ⟨k2, hf, hkk2⟩ := jx_bs hf
  have hXk2 : ∀ (H : Heap) (locs : List Loc) (ls : Array Slot), va_P D vwCl (wPt a cI cL un ow ki th cm tr tl ch) H → va_D A (wPt a cI cL un ow ki th cm tr tl ch) → va_S A s.heap H locs → lv_has ls 3 [(1, .int k2)] → jx_Wi p l e wsX3_joins ({ frames := 2, cells := 0, slots := 0, locals := 45 }) s m [.ref (a 5)] below meth c D [(cI, .int), (cL, .long)] res (wPt a cI cL un ow ki th cm tr tl ch) A H locs (F0 m 24 ls []) := by
    clear hf hP hD hS hl
    intro H locs ls hP hD hS hl
    have hf := hkk2
    refine lv_iload_n hx hb dX3_joins_24 rfl (lv_at hl 0 rfl) ?_
    have he := jx_eq hf
    subst he
    exact jx_reti hx hb hr hlocks rfl hK hP hD hS dX3_joins_25
  have hLk2 : ∀ (n : Nat) (s1 : (Int32 × Int32)) (H : Heap) (locs : List Loc) (ls : Array Slot), jx_iter (pf_X3_joins_s1 ki) n s1 = some k2 → va_P D vwCl (wPt a cI cL un ow ki th cm tr tl ch) H → va_D A (wPt a cI cL un ow ki th cm tr tl ch) → va_S A s.heap H locs → lv_has ls 3 [(0, .ref (a 5)), (1, .int s1.1), (2, .int s1.2)] → jx_Wi p l e wsX3_joins ({ frames := 2, cells := 0, slots := 0, locals := 45 }) s m [.ref (a 5)] below meth c D [(cI, .int), (cL, .long)] res (wPt a cI cL un ow ki th cm tr tl ch) A H locs (F0 m 4 ls []) := by
    clear hf hP hD hS hl
    intro n
    induction n with
    | zero => intro s1 _ _ _ hf; cases hf
    | succ n ihk2 =>
      intro s1 H locs ls hf hP hD hS hl
      obtain ⟨q3, hf, hgk2⟩ := jx_bs hf
      refine lv_iload_n hx hb dX3_joins_4 rfl (lv_at hl 2 rfl) ?_
      refine lv_bipush (v := 8) hx hb dX3_joins_5 (by decide) ?_
      refine lv_icmp_ge (tgt := 24) hx hb dX3_joins_7 (by decide) (fun hq => ?_) (fun hq => ?_)
      · replace hf := jx_pos hq hf
        have he := jx_eq hf
        subst he
        have he : _ = k2 := jx_eq hgk2
        subst he
        exact hXk2 _ _ _ hP hD hS (lv_sub hl [1] rfl)
      · replace hf := jx_neg hq hf
        refine lv_iload_n hx hb dX3_joins_10 rfl (lv_at hl 1 rfl) ?_
        refine lv_aload_n hx hb dX3_joins_11 rfl (lv_at hl 0 rfl) ?_
        refine lv_iload_n hx hb dX3_joins_12 rfl (lv_at hl 2 rfl) ?_
        obtain ⟨r4, hc, hf⟩ := jx_bs hf
        refine jx_ki (wr := []) (ws2 := (wPt a cI cL un ow ki th cm tr tl ch)) (jx_runV (As := [.int s1.2]) (rest := [.int s1.1]) ⟨hx, hb, hml, hown, hts⟩ (c_X3_joinsFrom l D a cI cL un ow ki th cm tr tl ch s1.2 r4 hc _) (cwV 1 hts gX3_joins_X3_joinsFrom rfl rfl rfl (by decide +kernel) ⟨Nat.le_of_ble_eq_true rfl, Nat.le_of_ble_eq_true rfl⟩) hK hN hP hD [0, 1, 2, 3, 4, 5] rfl (by decide) 0 3 rfl rfl rfl hl.1 rfl (Nat.le_of_ble_eq_true rfl) dX3_joins_13 ⟨Nat.le_of_ble_eq_true rfl, Nat.le_of_ble_eq_true rfl⟩) hP hD hS hA [0, 1, 2, 3, 4, 5] [] [0, 1, 2, 3, 4, 5] rfl rfl (by decide) (by decide) rfl (by decide) (fun H locs hP hD hS => ?_)
        clear hc
        refine lv_iadd hx hb dX3_joins_16 ?_
        refine lv_istore_n (lv' := [(1, .int (s1.1 + r4)), (0, .ref (a 5)), (2, .int s1.2)]) hx hb dX3_joins_17 rfl hl (by decide) rfl (fun ls hl => ?_)
        refine lv_iinc (v := (s1.2 + (1 : Int32))) (lv' := [(2, .int (s1.2 + (1 : Int32))), (1, .int (s1.1 + r4)), (0, .ref (a 5))]) hx hb dX3_joins_18 hl (k := 2) rfl rfl (by decide) rfl (fun ls hl => ?_)
        refine lv_goto (tgt := 4) hx hb dX3_joins_21 (by decide) ?_
        have he := jx_eq hf
        subst he
        exact ihk2 ((s1.1 + r4), (s1.2 + (1 : Int32))) _ _ _ hgk2 hP hD hS (lv_sub hl [2, 1, 0] rfl)
  exact hLk2 jx_F ((0 : Int32), (0 : Int32)) _ _ _ hf hP hD hS (lv_sub hl [2, 1, 0] rfl)
set_option maxHeartbeats 4000000 in
set_option maxRecDepth 100000 in
theorem c_X3_joinsTo (l : Launch) (D : va_G) (a : Nat → Nat) (cI cL : ClassId) (un : (Nat → Int32)) (ow : (Nat → Int64)) (ki : (Nat → Int32)) (th : (Nat → Int64)) (cm : (Nat → Int64)) (tr : Int32) (tl : Int32) (ch : Int32) (p0 : Int32) (res : Int32) (hf : pf_X3_joinsTo ki p0 = some res) : jMi l yX3_joinsTo wsX3_joinsTo ({ frames := 1, cells := 0, slots := 0, locals := 22 }) D [(cI, .int), (cL, .long)] [.ref (a 5), .int p0] (wPt a cI cL un ow ki th cm tr tl ch) res (wPt a cI cL un ow ki th cm tr tl ch) := by
  intro sz
  refine Met.ofW (cc := cX3_joinsTo) (maxL := 4) (ret := (some .int)) (by decide) rfl ?_
  intro p e s m args below meth c s₁ B hml hv
  obtain ⟨rfl, hsz, hP, hK, hD0, hN⟩ := hv
  have hx := B.exec
  have hb := B.bytes
  have hr := B.returns
  have hts := atoms_spec (ws := wsX3_joinsTo) B.pre
  have hown : s.vm.findClass RX3 = some m.cls := findClass_of_methodNamed B.named
  have hlocks := B.notSynchronized
  subst hsz
  have hD := hD0.self (sz := s.heap.size)
  generalize hAe : va_A (wPt a cI cL un ow ki th cm tr tl ch) s.heap.size = A at hD ⊢
  have hA : ∀ q : Nat, s.heap.size ≤ q → A q := fun q h => by rw [← hAe]; exact Or.inr h
  have hS : va_S A s.heap s.heap [] := va_S.rf
  have hl := lv_entry ([.ref (a 5), .int p0]) (n := 4) (Nat.le_of_ble_eq_true rfl)
  rw [lg_entry_eq]
  generalize (lg_sl ([.ref (a 5), .int p0]) ++ List.replicate (4 - (lg_sl ([.ref (a 5), .int p0])).length) Slot.unset).toArray = ls at hl ⊢
  have hl : lv_has ls 4 [(0, .ref (a 5)), (1, .int p0)] := hl
  have hf : pf_X3_joinsTo ki p0 = some res := hf
  refine lv_iconst (v := 0) hx hb dX3_joinsTo_0 (by decide) ?_
  refine lv_istore_n (lv' := [(2, .int (0 : Int32)), (0, .ref (a 5)), (1, .int p0)]) hx hb dX3_joinsTo_1 rfl hl (by decide) rfl (fun ls hl => ?_)
  refine lv_iconst (v := 0) hx hb dX3_joinsTo_2 (by decide) ?_
  refine lv_istore_n (lv' := [(3, .int (0 : Int32)), (2, .int (0 : Int32)), (0, .ref (a 5)), (1, .int p0)]) hx hb dX3_joinsTo_3 rfl hl (by decide) rfl (fun ls hl => ?_)
  obtain ⟨k2, hf, hkk2⟩ := jx_bs hf
  have hXk2 : ∀ (H : Heap) (locs : List Loc) (ls : Array Slot), va_P D vwCl (wPt a cI cL un ow ki th cm tr tl ch) H → va_D A (wPt a cI cL un ow ki th cm tr tl ch) → va_S A s.heap H locs → lv_has ls 4 [(2, .int k2)] → jx_Wi p l e wsX3_joinsTo ({ frames := 1, cells := 0, slots := 0, locals := 22 }) s m [.ref (a 5), .int p0] below meth c D [(cI, .int), (cL, .long)] res (wPt a cI cL un ow ki th cm tr tl ch) A H locs (F0 m 34 ls []) := by
    clear hf hP hD hS hl
    intro H locs ls hP hD hS hl
    have hf := hkk2
    refine lv_iload_n hx hb dX3_joinsTo_34 rfl (lv_at hl 0 rfl) ?_
    have he := jx_eq hf
    subst he
    exact jx_reti hx hb hr hlocks rfl hK hP hD hS dX3_joinsTo_35
  have hLk2 : ∀ (n : Nat) (s1 : (Int32 × Int32)) (H : Heap) (locs : List Loc) (ls : Array Slot), jx_iter (pf_X3_joinsTo_s1 ki p0) n s1 = some k2 → va_P D vwCl (wPt a cI cL un ow ki th cm tr tl ch) H → va_D A (wPt a cI cL un ow ki th cm tr tl ch) → va_S A s.heap H locs → lv_has ls 4 [(0, .ref (a 5)), (1, .int p0), (2, .int s1.1), (3, .int s1.2)] → jx_Wi p l e wsX3_joinsTo ({ frames := 1, cells := 0, slots := 0, locals := 22 }) s m [.ref (a 5), .int p0] below meth c D [(cI, .int), (cL, .long)] res (wPt a cI cL un ow ki th cm tr tl ch) A H locs (F0 m 4 ls []) := by
    clear hf hP hD hS hl
    intro n
    induction n with
    | zero => intro s1 _ _ _ hf; cases hf
    | succ n ihk2 =>
      intro s1 H locs ls hf hP hD hS hl
      obtain ⟨q3, hf, hgk2⟩ := jx_bs hf
      refine lv_iload_n hx hb dX3_joinsTo_4 rfl (lv_at hl 3 rfl) ?_
      refine lv_bipush (v := 8) hx hb dX3_joinsTo_5 (by decide) ?_
      refine lv_icmp_ge (tgt := 34) hx hb dX3_joinsTo_7 (by decide) (fun hq => ?_) (fun hq => ?_)
      · replace hf := jx_pos hq hf
        have he := jx_eq hf
        subst he
        have he : _ = k2 := jx_eq hgk2
        subst he
        exact hXk2 _ _ _ hP hD hS (lv_sub hl [2] rfl)
      · replace hf := jx_neg hq hf
        refine lv_iload_n hx hb dX3_joinsTo_10 rfl (lv_at hl 2 rfl) ?_
        refine lv_aload_n hx hb dX3_joinsTo_11 rfl (lv_at hl 0 rfl) ?_
        refine lv_iload_n hx hb dX3_joinsTo_12 rfl (lv_at hl 3 rfl) ?_
        refine lv_iload_n hx hb dX3_joinsTo_13 rfl (lv_at hl 1 rfl) ?_
        obtain ⟨r4, hc, hf⟩ := jx_bs hf
        refine jx_ki (wr := []) (ws2 := (wPt a cI cL un ow ki th cm tr tl ch)) (jx_runV (As := [.int s1.2, .int p0]) (rest := [.int s1.1]) ⟨hx, hb, hml, hown, hts⟩ (c_X3_kindOf l D a cI cL un ow ki th cm tr tl ch s1.2 p0 r4 hc _) (cwV 2 hts gX3_joinsTo_X3_kindOf rfl rfl rfl (by decide +kernel) ⟨Nat.le_of_ble_eq_true rfl, Nat.le_of_ble_eq_true rfl⟩) hK hN hP hD [0, 1, 2, 3, 4, 5] rfl (by decide) 0 3 rfl rfl rfl hl.1 rfl (Nat.le_of_ble_eq_true rfl) dX3_joinsTo_14 ⟨Nat.le_of_ble_eq_true rfl, Nat.le_of_ble_eq_true rfl⟩) hP hD hS hA [0, 1, 2, 3, 4, 5] [] [0, 1, 2, 3, 4, 5] rfl rfl (by decide) (by decide) rfl (by decide) (fun H locs hP hD hS => ?_)
        clear hc
        refine lv_iconst (v := -1) hx hb dX3_joinsTo_17 (by decide) ?_
        obtain ⟨j5, hf, hkj5⟩ := jx_bs hf
        have hJj5 : ∀ (H : Heap) (locs : List Loc) (ls : Array Slot), va_P D vwCl (wPt a cI cL un ow ki th cm tr tl ch) H → va_D A (wPt a cI cL un ow ki th cm tr tl ch) → va_S A s.heap H locs → lv_has ls 4 [(0, .ref (a 5)), (1, .int p0), (3, .int s1.2)] → jx_Wi p l e wsX3_joinsTo ({ frames := 1, cells := 0, slots := 0, locals := 22 }) s m [.ref (a 5), .int p0] below meth c D [(cI, .int), (cL, .long)] res (wPt a cI cL un ow ki th cm tr tl ch) A H locs (F0 m 26 ls [.int j5, .int s1.1]) := by
          clear hf hP hD hS hl
          intro H locs ls hP hD hS hl
          have hf := hkj5
          refine lv_iadd hx hb dX3_joinsTo_26 ?_
          refine lv_istore_n (lv' := [(2, .int (s1.1 + j5)), (0, .ref (a 5)), (1, .int p0), (3, .int s1.2)]) hx hb dX3_joinsTo_27 rfl hl (by decide) rfl (fun ls hl => ?_)
          refine lv_iinc (v := (s1.2 + (1 : Int32))) (lv' := [(3, .int (s1.2 + (1 : Int32))), (2, .int (s1.1 + j5)), (0, .ref (a 5)), (1, .int p0)]) hx hb dX3_joinsTo_28 hl (k := 3) rfl rfl (by decide) rfl (fun ls hl => ?_)
          refine lv_goto (tgt := 4) hx hb dX3_joinsTo_31 (by decide) ?_
          have he := jx_eq hf
          subst he
          exact ihk2 ((s1.1 + j5), (s1.2 + (1 : Int32))) _ _ _ hgk2 hP hD hS (lv_sub hl [2, 3, 1, 0] rfl)
        refine lv_icmp_ne (tgt := 25) hx hb dX3_joinsTo_18 (by decide) (fun hq => ?_) (fun hq => ?_)
        · replace hf := jx_pos hq hf
          refine lv_iconst (v := 1) hx hb dX3_joinsTo_25 (by decide) ?_
          have he := jx_eq hf
          subst he
          exact hJj5 _ _ _ hP hD hS (lv_sub hl [0, 1, 3] rfl)
        · replace hf := jx_negn hq hf
          refine lv_iconst (v := 0) hx hb dX3_joinsTo_21 (by decide) ?_
          refine lv_goto (tgt := 26) hx hb dX3_joinsTo_22 (by decide) ?_
          have he := jx_eq hf
          subst he
          exact hJj5 _ _ _ hP hD hS (lv_sub hl [0, 1, 3] rfl)
  exact hLk2 jx_F ((0 : Int32), (0 : Int32)) _ _ _ hf hP hD hS (lv_sub hl [2, 3, 1, 0] rfl)
set_option maxHeartbeats 4000000 in
set_option maxRecDepth 100000 in
theorem c_X3_leastFree (l : Launch) (D : va_G) (a : Nat → Nat) (cI cL : ClassId) (un : (Nat → Int32)) (ow : (Nat → Int64)) (ki : (Nat → Int32)) (th : (Nat → Int64)) (cm : (Nat → Int64)) (tr : Int32) (tl : Int32) (ch : Int32) (res : Int32) (hf : pf_X3_leastFree tr = some res) : jMi l yX3_leastFree wsX3_leastFree ({ frames := 2, cells := 0, slots := 0, locals := 43 }) D [(cI, .int), (cL, .long)] [.ref (a 5)] (wPt a cI cL un ow ki th cm tr tl ch) res (wPt a cI cL un ow ki th cm tr tl ch) := by
  intro sz
  refine Met.ofW (cc := cX3_leastFree) (maxL := 2) (ret := (some .int)) (by decide) rfl ?_
  intro p e s m args below meth c s₁ B hml hv
  obtain ⟨rfl, hsz, hP, hK, hD0, hN⟩ := hv
  have hx := B.exec
  have hb := B.bytes
  have hr := B.returns
  have hts := atoms_spec (ws := wsX3_leastFree) B.pre
  have hown : s.vm.findClass RX3 = some m.cls := findClass_of_methodNamed B.named
  have hlocks := B.notSynchronized
  subst hsz
  have hD := hD0.self (sz := s.heap.size)
  generalize hAe : va_A (wPt a cI cL un ow ki th cm tr tl ch) s.heap.size = A at hD ⊢
  have hA : ∀ q : Nat, s.heap.size ≤ q → A q := fun q h => by rw [← hAe]; exact Or.inr h
  have hS : va_S A s.heap s.heap [] := va_S.rf
  have hl := lv_entry ([.ref (a 5)]) (n := 2) (Nat.le_of_ble_eq_true rfl)
  rw [lg_entry_eq]
  generalize (lg_sl ([.ref (a 5)]) ++ List.replicate (2 - (lg_sl ([.ref (a 5)])).length) Slot.unset).toArray = ls at hl ⊢
  have hl : lv_has ls 2 [(0, .ref (a 5))] := hl
  have hf : pf_X3_leastFree tr = some res := hf
  refine lv_iconst (v := 0) hx hb dX3_leastFree_0 (by decide) ?_
  refine lv_istore_n (lv' := [(1, .int (0 : Int32)), (0, .ref (a 5))]) hx hb dX3_leastFree_1 rfl hl (by decide) rfl (fun ls hl => ?_)
  obtain ⟨k2, hf, hkk2⟩ := jx_bs hf
  have hXk2 : ∀ (xk2 : Unit), k2 = Sum.inl xk2 → ∀ (H : Heap) (locs : List Loc) (ls : Array Slot), va_P D vwCl (wPt a cI cL un ow ki th cm tr tl ch) H → va_D A (wPt a cI cL un ow ki th cm tr tl ch) → va_S A s.heap H locs → lv_has ls 2 [] → jx_Wi p l e wsX3_leastFree ({ frames := 2, cells := 0, slots := 0, locals := 43 }) s m [.ref (a 5)] below meth c D [(cI, .int), (cL, .long)] res (wPt a cI cL un ow ki th cm tr tl ch) A H locs (F0 m 24 ls []) := by
    clear hf hP hD hS hl
    intro xk2 he H locs ls hP hD hS hl
    subst he
    have hf := hkk2
    refine lv_iconst (v := -1) hx hb dX3_leastFree_24 (by decide) ?_
    have he := jx_eq hf
    subst he
    exact jx_reti hx hb hr hlocks rfl hK hP hD hS dX3_leastFree_25
  have hLk2 : ∀ (n : Nat) (s1 : Int32) (H : Heap) (locs : List Loc) (ls : Array Slot), jx_iter (pf_X3_leastFree_s1 tr) n s1 = some k2 → va_P D vwCl (wPt a cI cL un ow ki th cm tr tl ch) H → va_D A (wPt a cI cL un ow ki th cm tr tl ch) → va_S A s.heap H locs → lv_has ls 2 [(0, .ref (a 5)), (1, .int s1)] → jx_Wi p l e wsX3_leastFree ({ frames := 2, cells := 0, slots := 0, locals := 43 }) s m [.ref (a 5)] below meth c D [(cI, .int), (cL, .long)] res (wPt a cI cL un ow ki th cm tr tl ch) A H locs (F0 m 2 ls []) := by
    clear hf hP hD hS hl
    intro n
    induction n with
    | zero => intro s1 _ _ _ hf; cases hf
    | succ n ihk2 =>
      intro s1 H locs ls hf hP hD hS hl
      obtain ⟨q3, hf, hgk2⟩ := jx_bs hf
      refine lv_iload_n hx hb dX3_leastFree_2 rfl (lv_at hl 1 rfl) ?_
      refine lv_bipush (v := 8) hx hb dX3_leastFree_3 (by decide) ?_
      refine lv_icmp_ge (tgt := 24) hx hb dX3_leastFree_5 (by decide) (fun hq => ?_) (fun hq => ?_)
      · replace hf := jx_pos hq hf
        have he := jx_eq hf
        subst he
        have he : Sum.inl _ = k2 := jx_eq hgk2
        subst he
        exact hXk2 _ rfl _ _ _ hP hD hS (lv_sub hl [] rfl)
      · replace hf := jx_neg hq hf
        refine lv_aload_n hx hb dX3_leastFree_8 rfl (lv_at hl 0 rfl) ?_
        refine lv_iload_n hx hb dX3_leastFree_9 rfl (lv_at hl 1 rfl) ?_
        obtain ⟨r4, hc, hf⟩ := jx_bs hf
        refine jx_ki (wr := []) (ws2 := (wPt a cI cL un ow ki th cm tr tl ch)) (jx_runV (As := [.int s1]) (rest := []) ⟨hx, hb, hml, hown, hts⟩ (c_X3_has l D a cI cL un ow ki th cm tr tl ch s1 r4 hc _) (cwV 1 hts gX3_leastFree_X3_has rfl rfl rfl (by decide +kernel) ⟨Nat.le_of_ble_eq_true rfl, Nat.le_of_ble_eq_true rfl⟩) hK hN hP hD [0, 1, 2, 3, 4, 5] rfl (by decide) 0 3 rfl rfl rfl hl.1 rfl (Nat.le_of_ble_eq_true rfl) dX3_leastFree_10 ⟨Nat.le_of_ble_eq_true rfl, Nat.le_of_ble_eq_true rfl⟩) hP hD hS hA [0, 1, 2, 3, 4, 5] [] [0, 1, 2, 3, 4, 5] rfl rfl (by decide) (by decide) rfl (by decide) (fun H locs hP hD hS => ?_)
        clear hc
        refine lv_if_ne (tgt := 18) hx hb dX3_leastFree_13 (by decide) (fun hq => ?_) (fun hq => ?_)
        · replace hf := jx_pos hq hf
          refine lv_iinc (v := (s1 + (1 : Int32))) (lv' := [(1, .int (s1 + (1 : Int32))), (0, .ref (a 5))]) hx hb dX3_leastFree_18 hl (k := 1) rfl rfl (by decide) rfl (fun ls hl => ?_)
          refine lv_goto (tgt := 2) hx hb dX3_leastFree_21 (by decide) ?_
          have he := jx_eq hf
          subst he
          exact ihk2 (s1 + (1 : Int32)) _ _ _ hgk2 hP hD hS (lv_sub hl [1, 0] rfl)
        · replace hf := jx_negn hq hf
          refine lv_iload_n hx hb dX3_leastFree_16 rfl (lv_at hl 1 rfl) ?_
          have he := jx_eq hf
          subst he
          have he : Sum.inr _ = k2 := jx_eq hgk2
          subst he
          have hf := hkk2
          have he := jx_eq hf
          subst he
          exact jx_reti hx hb hr hlocks rfl hK hP hD hS dX3_leastFree_17
  exact hLk2 jx_F (0 : Int32) _ _ _ hf hP hD hS (lv_sub hl [1, 0] rfl)
set_option maxHeartbeats 4000000 in
set_option maxRecDepth 100000 in
theorem c_X3_lets (l : Launch) (D : va_G) (a : Nat → Nat) (cI cL : ClassId) (un : (Nat → Int32)) (ow : (Nat → Int64)) (ki : (Nat → Int32)) (th : (Nat → Int64)) (cm : (Nat → Int64)) (tr : Int32) (tl : Int32) (ch : Int32) (p0 : Int32) (p1 : Int32) (p2 : Int32) (res : Int32) (hf : pf_X3_lets ki p0 p1 p2 = some res) : jMi l yX3_lets wsX3_lets ({ frames := 1, cells := 0, slots := 0, locals := 22 }) D [(cI, .int), (cL, .long)] [.ref (a 5), .int p0, .int p1, .int p2] (wPt a cI cL un ow ki th cm tr tl ch) res (wPt a cI cL un ow ki th cm tr tl ch) := by
  intro sz
  refine Met.ofW (cc := cX3_lets) (maxL := 5) (ret := (some .boolean)) (by decide) rfl ?_
  intro p e s m args below meth c s₁ B hml hv
  obtain ⟨rfl, hsz, hP, hK, hD0, hN⟩ := hv
  have hx := B.exec
  have hb := B.bytes
  have hr := B.returns
  have hts := atoms_spec (ws := wsX3_lets) B.pre
  have hown : s.vm.findClass RX3 = some m.cls := findClass_of_methodNamed B.named
  have hlocks := B.notSynchronized
  subst hsz
  have hD := hD0.self (sz := s.heap.size)
  generalize hAe : va_A (wPt a cI cL un ow ki th cm tr tl ch) s.heap.size = A at hD ⊢
  have hA : ∀ q : Nat, s.heap.size ≤ q → A q := fun q h => by rw [← hAe]; exact Or.inr h
  have hS : va_S A s.heap s.heap [] := va_S.rf
  have hl := lv_entry ([.ref (a 5), .int p0, .int p1, .int p2]) (n := 5) (Nat.le_of_ble_eq_true rfl)
  rw [lg_entry_eq]
  generalize (lg_sl ([.ref (a 5), .int p0, .int p1, .int p2]) ++ List.replicate (5 - (lg_sl ([.ref (a 5), .int p0, .int p1, .int p2])).length) Slot.unset).toArray = ls at hl ⊢
  have hl : lv_has ls 5 [(0, .ref (a 5)), (1, .int p0), (2, .int p1), (3, .int p2)] := hl
  have hf : pf_X3_lets ki p0 p1 p2 = some res := hf
  refine lv_aload_n hx hb dX3_lets_0 rfl (lv_at hl 0 rfl) ?_
  refine lv_iload_n hx hb dX3_lets_1 rfl (lv_at hl 1 rfl) ?_
  refine lv_iload_n hx hb dX3_lets_2 rfl (lv_at hl 2 rfl) ?_
  obtain ⟨r1, hc, hf⟩ := jx_bs hf
  refine jx_ki (wr := []) (ws2 := (wPt a cI cL un ow ki th cm tr tl ch)) (jx_runV (As := [.int p0, .int p1]) (rest := []) ⟨hx, hb, hml, hown, hts⟩ (c_X3_kindOf l D a cI cL un ow ki th cm tr tl ch p0 p1 r1 hc _) (cwV 2 hts gX3_lets_X3_kindOf rfl rfl rfl (by decide +kernel) ⟨Nat.le_of_ble_eq_true rfl, Nat.le_of_ble_eq_true rfl⟩) hK hN hP hD [0, 1, 2, 3, 4, 5] rfl (by decide) 0 3 rfl rfl rfl hl.1 rfl (Nat.le_of_ble_eq_true rfl) dX3_lets_3 ⟨Nat.le_of_ble_eq_true rfl, Nat.le_of_ble_eq_true rfl⟩) hP hD hS hA [0, 1, 2, 3, 4, 5] [] [0, 1, 2, 3, 4, 5] rfl rfl (by decide) (by decide) rfl (by decide) (fun H locs hP hD hS => ?_)
  clear hc
  refine lv_istore (lv' := [(4, .int r1), (0, .ref (a 5)), (1, .int p0), (2, .int p1), (3, .int p2)]) hx hb dX3_lets_6 hl (by decide) rfl (fun ls hl => ?_)
  refine lv_iload hx hb dX3_lets_8 (lv_at hl 0 rfl) ?_
  refine lv_iconst (v := -1) hx hb dX3_lets_10 (by decide) ?_
  refine lv_icmp_eq (tgt := 24) hx hb dX3_lets_11 (by decide) (fun hq => ?_) (fun hq => ?_)
  · replace hf := jx_pos hq hf
    refine lv_iconst (v := 0) hx hb dX3_lets_24 (by decide) ?_
    have he := jx_eq hf
    subst he
    exact jx_retz hx hb hr hlocks narrow_b0 rfl hK hP hD hS dX3_lets_25
  · replace hf := jx_neg hq hf
    refine lv_iload_n hx hb dX3_lets_14 rfl (lv_at hl 4 rfl) ?_
    refine lv_iload hx hb dX3_lets_15 (lv_at hl 0 rfl) ?_
    refine lv_icmp_le (tgt := 24) hx hb dX3_lets_17 (by decide) (fun hq => ?_) (fun hq => ?_)
    · replace hf := jx_pos hq hf
      refine lv_iconst (v := 0) hx hb dX3_lets_24 (by decide) ?_
      have he := jx_eq hf
      subst he
      exact jx_retz hx hb hr hlocks narrow_b0 rfl hK hP hD hS dX3_lets_25
    · replace hf := jx_neg hq hf
      refine lv_iconst (v := 1) hx hb dX3_lets_20 (by decide) ?_
      refine lv_goto (tgt := 25) hx hb dX3_lets_21 (by decide) ?_
      have he := jx_eq hf
      subst he
      exact jx_retz hx hb hr hlocks narrow_b1 rfl hK hP hD hS dX3_lets_25
