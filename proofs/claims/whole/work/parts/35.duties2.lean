theorem iw_X6_withPart_X6 : ∀ w ∈ wsX60, w ∈ wsX6_withPart := by decide +kernel
set_option maxHeartbeats 4000000 in
set_option maxRecDepth 100000 in
theorem c_X6_withPart (l : Launch) (D : va_G) (a : Nat → Nat) (cI cL : ClassId) (pl : Int32) (cd : (Nat → Int32)) (bs : Int32) (br : (Nat → Int64)) (un : (Nat → Int32)) (ow : (Nat → Int64)) (ki : (Nat → Int32)) (th : (Nat → Int64)) (cm : (Nat → Int64)) (tr : Int32) (tl : Int32) (ch : Int32) (jl : (Nat → Int32)) (bz : (Nat → Int64)) (rw : (Nat → Int64)) (kf : Int32) (p0 : Int64) (p1 : Int32) (res : Int64) (hf : pf_X6_withPart un ki cm tr p0 p1 = some res) : jMl l yX6_withPart wsX6_withPart ({ frames := 4, cells := 0, slots := 0, locals := 92 }) D [(cI, .int), (cL, .long)] [.ref (a 0), .long p0, .int p1] (wX a cI cL pl cd bs br un ow ki th cm tr tl ch jl bz rw kf) res (wX a cI cL pl cd bs br un ow ki th cm tr tl ch jl bz rw kf) := by
  intro sz
  refine Met.ofW (cc := cX6_withPart) (maxL := 7) (ret := (some .long)) (by decide) rfl ?_
  intro p e s m args below meth c s₁ B hml hv
  obtain ⟨rfl, hsz, hP, hK, hD0, hN⟩ := hv
  have hx := B.exec
  have hb := B.bytes
  have hr := B.returns
  have hts := atoms_spec (ws := wsX6_withPart) B.pre
  have hown : s.vm.findClass RX6 = some m.cls := findClass_of_methodNamed B.named
  have hlocks := B.notSynchronized
  subst hsz
  have hD := hD0.self (sz := s.heap.size)
  generalize hAe : va_A (wX a cI cL pl cd bs br un ow ki th cm tr tl ch jl bz rw kf) s.heap.size = A at hD ⊢
  have hA : ∀ q : Nat, s.heap.size ≤ q → A q := fun q h => by rw [← hAe]; exact Or.inr h
  have hS : va_S A s.heap s.heap [] := va_S.rf
  have hl := lv_entry ([.ref (a 0), .long p0, .int p1]) (n := 7) (Nat.le_of_ble_eq_true rfl)
  rw [lg_entry_eq]
  generalize (lg_sl ([.ref (a 0), .long p0, .int p1]) ++ List.replicate (7 - (lg_sl ([.ref (a 0), .long p0, .int p1])).length) Slot.unset).toArray = ls at hl ⊢
  have hl : lv_has ls 7 [(0, .ref (a 0)), (1, .long p0), (3, .int p1)] := hl
  have hf : pf_X6_withPart un ki cm tr p0 p1 = some res := hf
  refine lv_lload_n hx hb dX6_withPart_0 rfl (lv_at hl 1 rfl) ?_
  refine lv_iload_n hx hb dX6_withPart_1 rfl (lv_at hl 2 rfl) ?_
  refine lv_i2l (v := (p1).toInt64) hx hb dX6_withPart_2 rfl ?_
  obtain ⟨r1, hc, hf⟩ := jx_bs hf
  refine jx_kl (wr := [((a 0), .inr (5, [.ref (a 1), .ref (a 3), .ref (a 5), .ref (a 11), .ref (a 13)])), ((a 1), .inr (2, [.ref (a 2), .int pl])), ((a 2), .inl (cI, 24, .inl cd)), ((a 3), .inr (0, [.ref (a 4), .int bs])), ((a 4), .inl (cL, 8, .inr (.inl br))), ((a 5), .inr (3, [.ref (a 6), .ref (a 7), .ref (a 8), .ref (a 9), .ref (a 10), .int tr, .int tl, .int ch])), ((a 6), .inl (cI, 8, .inl un)), ((a 7), .inl (cL, 8, .inr (.inl ow))), ((a 8), .inl (cI, 64, .inl ki)), ((a 9), .inl (cL, 64, .inr (.inl th))), ((a 10), .inl (cL, 8, .inr (.inl cm))), ((a 11), .inr (4, [.ref (a 5), .ref (a 12)])), ((a 12), .inl (cI, 8, .inl jl)), ((a 13), .inr (1, [.ref (a 5), .ref (a 14), .ref (a 15), .int kf])), ((a 14), .inl (cL, 256, .inr (.inl bz))), ((a 15), .inl (cL, 8, .inr (.inl rw)))]) (ws2 := (wX a cI cL pl cd bs br un ow ki th cm tr tl ch jl bz rw kf)) (jx_runS (As := [.long p0, .long (p1).toInt64]) (rest := []) ⟨hx, hb, hml, hown, hts⟩ (c_X6_mix l D a cI cL p0 (p1).toInt64 r1 hc _) (va_cwS 2 hts gX6_withPart_X6_mix rfl rfl rfl (by decide +kernel) ⟨Nat.le_of_ble_eq_true rfl, Nat.le_of_ble_eq_true rfl⟩) hK hN hP hD [] rfl (by decide) rfl hl.1 rfl (Nat.le_of_ble_eq_true rfl) dX6_withPart_3 ⟨Nat.le_of_ble_eq_true rfl, Nat.le_of_ble_eq_true rfl⟩) hP hD hS hA [] [0, 1, 2, 3, 4, 5, 6, 7, 8, 9, 10, 11, 12, 13, 14, 15] [0, 1, 2, 3, 4, 5, 6, 7, 8, 9, 10, 11, 12, 13, 14, 15] rfl rfl (by decide) (by decide) rfl (by decide) (fun H locs hP hD hS => ?_)
  clear hc
  refine lv_lstore (lv' := [(4, .long r1), (0, .ref (a 0)), (1, .long p0), (3, .int p1)]) hx hb dX6_withPart_6 hl (by decide) rfl (fun ls hl => ?_)
  refine lv_iconst (v := 0) hx hb dX6_withPart_8 (by decide) ?_
  refine lv_istore (lv' := [(6, .int (0 : Int32)), (4, .long r1), (0, .ref (a 0)), (1, .long p0), (3, .int p1)]) hx hb dX6_withPart_9 hl (by decide) rfl (fun ls hl => ?_)
  obtain ⟨k3, hf, hkk3⟩ := jx_bs hf
  have hXk3 : ∀ (H : Heap) (locs : List Loc) (ls : Array Slot), va_P D vwCl (wX a cI cL pl cd bs br un ow ki th cm tr tl ch jl bz rw kf) H → va_D A (wX a cI cL pl cd bs br un ow ki th cm tr tl ch jl bz rw kf) → va_S A s.heap H locs → lv_has ls 7 [(0, .ref (a 0)), (3, .int p1), (4, .long k3)] → jx_Wl p l e wsX6_withPart ({ frames := 4, cells := 0, slots := 0, locals := 92 }) s m [.ref (a 0), .long p0, .int p1] below meth c D [(cI, .int), (cL, .long)] res (wX a cI cL pl cd bs br un ow ki th cm tr tl ch jl bz rw kf) A H locs (F0 m 39 ls []) := by
    clear hf hP hD hS hl
    intro H locs ls hP hD hS hl
    have hf := hkk3
    refine lv_iconst (v := 0) hx hb dX6_withPart_39 (by decide) ?_
    refine lv_istore (lv' := [(6, .int (0 : Int32)), (0, .ref (a 0)), (3, .int p1), (4, .long k3)]) hx hb dX6_withPart_40 hl (by decide) rfl (fun ls hl => ?_)
    obtain ⟨k8, hf, hkk8⟩ := jx_bs hf
    have hXk8 : ∀ (H : Heap) (locs : List Loc) (ls : Array Slot), va_P D vwCl (wX a cI cL pl cd bs br un ow ki th cm tr tl ch jl bz rw kf) H → va_D A (wX a cI cL pl cd bs br un ow ki th cm tr tl ch jl bz rw kf) → va_S A s.heap H locs → lv_has ls 7 [(0, .ref (a 0)), (3, .int p1), (4, .long k8)] → jx_Wl p l e wsX6_withPart ({ frames := 4, cells := 0, slots := 0, locals := 92 }) s m [.ref (a 0), .long p0, .int p1] below meth c D [(cI, .int), (cL, .long)] res (wX a cI cL pl cd bs br un ow ki th cm tr tl ch jl bz rw kf) A H locs (F0 m 70 ls []) := by
      clear hf hP hD hS hl
      intro H locs ls hP hD hS hl
      have hf := hkk8
      refine lv_iconst (v := 0) hx hb dX6_withPart_70 (by decide) ?_
      refine lv_istore (lv' := [(6, .int (0 : Int32)), (0, .ref (a 0)), (3, .int p1), (4, .long k8)]) hx hb dX6_withPart_71 hl (by decide) rfl (fun ls hl => ?_)
      obtain ⟨k13, hf, hkk13⟩ := jx_bs hf
      have hXk13 : ∀ (H : Heap) (locs : List Loc) (ls : Array Slot), va_P D vwCl (wX a cI cL pl cd bs br un ow ki th cm tr tl ch jl bz rw kf) H → va_D A (wX a cI cL pl cd bs br un ow ki th cm tr tl ch jl bz rw kf) → va_S A s.heap H locs → lv_has ls 7 [(4, .long k13)] → jx_Wl p l e wsX6_withPart ({ frames := 4, cells := 0, slots := 0, locals := 92 }) s m [.ref (a 0), .long p0, .int p1] below meth c D [(cI, .int), (cL, .long)] res (wX a cI cL pl cd bs br un ow ki th cm tr tl ch jl bz rw kf) A H locs (F0 m 113 ls []) := by
        clear hf hP hD hS hl
        intro H locs ls hP hD hS hl
        have hf := hkk13
        refine lv_lload hx hb dX6_withPart_113 (lv_at hl 0 rfl) ?_
        have he := jx_eq hf
        subst he
        exact jx_retl hx hb hr hlocks rfl hK hP hD hS dX6_withPart_115
      have hLk13 : ∀ (n : Nat) (s12 : (Int64 × Int32)) (H : Heap) (locs : List Loc) (ls : Array Slot), jx_iter (pf_X6_withPart_s3 ki tr p1) n s12 = some k13 → va_P D vwCl (wX a cI cL pl cd bs br un ow ki th cm tr tl ch jl bz rw kf) H → va_D A (wX a cI cL pl cd bs br un ow ki th cm tr tl ch jl bz rw kf) → va_S A s.heap H locs → lv_has ls 7 [(0, .ref (a 0)), (3, .int p1), (4, .long s12.1), (6, .int s12.2)] → jx_Wl p l e wsX6_withPart ({ frames := 4, cells := 0, slots := 0, locals := 92 }) s m [.ref (a 0), .long p0, .int p1] below meth c D [(cI, .int), (cL, .long)] res (wX a cI cL pl cd bs br un ow ki th cm tr tl ch jl bz rw kf) A H locs (F0 m 73 ls []) := by
        clear hf hP hD hS hl
        intro n
        induction n with
        | zero => intro s12 _ _ _ hf; cases hf
        | succ n ihk13 =>
          intro s12 H locs ls hf hP hD hS hl
          obtain ⟨q14, hf, hgk13⟩ := jx_bs hf
          refine lv_iload hx hb dX6_withPart_73 (lv_at hl 3 rfl) ?_
          refine lv_bipush (v := 8) hx hb dX6_withPart_75 (by decide) ?_
          refine lv_icmp_ge (tgt := 113) hx hb dX6_withPart_77 (by decide) (fun hq => ?_) (fun hq => ?_)
          · replace hf := jx_pos hq hf
            have he := jx_eq hf
            subst he
            have he : _ = k13 := jx_eq hgk13
            subst he
            exact hXk13 _ _ _ hP hD hS (lv_sub hl [2] rfl)
          · replace hf := jx_neg hq hf
            refine lv_aload_n hx hb dX6_withPart_80 rfl (lv_at hl 0 rfl) ?_
            refine va_get (D := D) (ci := 5) (v := .ref (a 5)) (C := RX6) (T := TX6) (N := 5) hx hb hts iw_X6_withPart_X6 hown hK hP 0 rfl rfl 2 (by decide) (hts (.fieldLink RX6 26 "PassedDuties" "parts" "LPassedDuties$Parts;") (by decide +kernel)) (fun _ h9 => h9) rfl dX6_withPart_81 ?_
            refine lv_iload hx hb dX6_withPart_84 (lv_at hl 3 rfl) ?_
            obtain ⟨r15, hc, hf⟩ := jx_bs hf
            refine jx_ki (wr := [((a 0), .inr (5, [.ref (a 1), .ref (a 3), .ref (a 5), .ref (a 11), .ref (a 13)])), ((a 1), .inr (2, [.ref (a 2), .int pl])), ((a 2), .inl (cI, 24, .inl cd)), ((a 3), .inr (0, [.ref (a 4), .int bs])), ((a 4), .inl (cL, 8, .inr (.inl br))), ((a 11), .inr (4, [.ref (a 5), .ref (a 12)])), ((a 12), .inl (cI, 8, .inl jl)), ((a 13), .inr (1, [.ref (a 5), .ref (a 14), .ref (a 15), .int kf])), ((a 14), .inl (cL, 256, .inr (.inl bz))), ((a 15), .inl (cL, 8, .inr (.inl rw)))]) (ws2 := (wX a cI cL pl cd bs br un ow ki th cm tr tl ch jl bz rw kf)) (jx_runV (As := [.int s12.2]) (rest := []) ⟨hx, hb, hml, hown, hts⟩ (c_X3_has l D a cI cL un ow ki th cm tr tl ch s12.2 r15 hc _) (cwV 1 hts gX6_withPart_X3_has rfl rfl rfl (by decide +kernel) ⟨Nat.le_of_ble_eq_true rfl, Nat.le_of_ble_eq_true rfl⟩) hK hN hP hD [5, 6, 7, 8, 9, 10] rfl (by decide) 5 3 rfl rfl rfl hl.1 rfl (Nat.le_of_ble_eq_true rfl) dX6_withPart_86 ⟨Nat.le_of_ble_eq_true rfl, Nat.le_of_ble_eq_true rfl⟩) hP hD hS hA [5, 6, 7, 8, 9, 10] [0, 1, 2, 3, 4, 11, 12, 13, 14, 15] [0, 1, 2, 3, 4, 10, 11, 12, 13, 14, 15, 5, 6, 7, 8, 9] rfl rfl (by decide) (by decide) rfl (by decide) (fun H locs hP hD hS => ?_)
            clear hc
            obtain ⟨j16, hf, hkj16⟩ := jx_bs hf
            have hJj16 : ∀ (H : Heap) (locs : List Loc) (ls : Array Slot), va_P D vwCl (wX a cI cL pl cd bs br un ow ki th cm tr tl ch jl bz rw kf) H → va_D A (wX a cI cL pl cd bs br un ow ki th cm tr tl ch jl bz rw kf) → va_S A s.heap H locs → lv_has ls 7 [(0, .ref (a 0)), (3, .int p1), (4, .long j16), (6, .int s12.2)] → jx_Wl p l e wsX6_withPart ({ frames := 4, cells := 0, slots := 0, locals := 92 }) s m [.ref (a 0), .long p0, .int p1] below meth c D [(cI, .int), (cL, .long)] res (wX a cI cL pl cd bs br un ow ki th cm tr tl ch jl bz rw kf) A H locs (F0 m 107 ls []) := by
              clear hf hP hD hS hl
              intro H locs ls hP hD hS hl
              have hf := hkj16
              refine lv_iinc (v := (s12.2 + (1 : Int32))) (lv' := [(6, .int (s12.2 + (1 : Int32))), (0, .ref (a 0)), (3, .int p1), (4, .long j16)]) hx hb dX6_withPart_107 hl (k := 3) rfl rfl (by decide) rfl (fun ls hl => ?_)
              refine lv_goto (tgt := 73) hx hb dX6_withPart_110 (by decide) ?_
              have he := jx_eq hf
              subst he
              exact ihk13 (j16, (s12.2 + (1 : Int32))) _ _ _ hgk13 hP hD hS (lv_sub hl [1, 2, 3, 0] rfl)
            refine lv_if_eq (tgt := 107) hx hb dX6_withPart_89 (by decide) (fun hq => ?_) (fun hq => ?_)
            · replace hf := jx_pos hq hf
              have he := jx_eq hf
              subst he
              exact hJj16 _ _ _ hP hD hS (lv_sub hl [0, 1, 2, 3] rfl)
            · replace hf := jx_neg hq hf
              refine lv_lload hx hb dX6_withPart_92 (lv_at hl 2 rfl) ?_
              refine lv_aload_n hx hb dX6_withPart_94 rfl (lv_at hl 0 rfl) ?_
              refine lv_iload_n hx hb dX6_withPart_95 rfl (lv_at hl 1 rfl) ?_
              refine lv_iload hx hb dX6_withPart_96 (lv_at hl 3 rfl) ?_
              obtain ⟨r17, hc, hf⟩ := jx_bs hf
              refine jx_ki (wr := []) (ws2 := (wX a cI cL pl cd bs br un ow ki th cm tr tl ch jl bz rw kf)) (jx_runV (As := [.int p1, .int s12.2]) (rest := [.long s12.1]) ⟨hx, hb, hml, hown, hts⟩ (c_X6_kind l D a cI cL pl cd bs br un ow ki th cm tr tl ch jl bz rw kf p1 s12.2 r17 hc _) (cwV 2 hts gX6_withPart_X6_kind rfl rfl rfl (by decide +kernel) ⟨Nat.le_of_ble_eq_true rfl, Nat.le_of_ble_eq_true rfl⟩) hK hN hP hD [0, 1, 2, 3, 4, 5, 6, 7, 8, 9, 10, 11, 12, 13, 14, 15] rfl (by decide) 0 5 rfl rfl rfl hl.1 rfl (Nat.le_of_ble_eq_true rfl) dX6_withPart_98 ⟨Nat.le_of_ble_eq_true rfl, Nat.le_of_ble_eq_true rfl⟩) hP hD hS hA [0, 1, 2, 3, 4, 5, 6, 7, 8, 9, 10, 11, 12, 13, 14, 15] [] [0, 1, 2, 3, 4, 5, 6, 7, 8, 9, 10, 11, 12, 13, 14, 15] rfl rfl (by decide) (by decide) rfl (by decide) (fun H locs hP hD hS => ?_)
              clear hc
              refine lv_i2l (v := (r17).toInt64) hx hb dX6_withPart_101 rfl ?_
              obtain ⟨r18, hc, hf⟩ := jx_bs hf
              refine jx_kl (wr := [((a 0), .inr (5, [.ref (a 1), .ref (a 3), .ref (a 5), .ref (a 11), .ref (a 13)])), ((a 1), .inr (2, [.ref (a 2), .int pl])), ((a 2), .inl (cI, 24, .inl cd)), ((a 3), .inr (0, [.ref (a 4), .int bs])), ((a 4), .inl (cL, 8, .inr (.inl br))), ((a 5), .inr (3, [.ref (a 6), .ref (a 7), .ref (a 8), .ref (a 9), .ref (a 10), .int tr, .int tl, .int ch])), ((a 6), .inl (cI, 8, .inl un)), ((a 7), .inl (cL, 8, .inr (.inl ow))), ((a 8), .inl (cI, 64, .inl ki)), ((a 9), .inl (cL, 64, .inr (.inl th))), ((a 10), .inl (cL, 8, .inr (.inl cm))), ((a 11), .inr (4, [.ref (a 5), .ref (a 12)])), ((a 12), .inl (cI, 8, .inl jl)), ((a 13), .inr (1, [.ref (a 5), .ref (a 14), .ref (a 15), .int kf])), ((a 14), .inl (cL, 256, .inr (.inl bz))), ((a 15), .inl (cL, 8, .inr (.inl rw)))]) (ws2 := (wX a cI cL pl cd bs br un ow ki th cm tr tl ch jl bz rw kf)) (jx_runS (As := [.long s12.1, .long (r17).toInt64]) (rest := []) ⟨hx, hb, hml, hown, hts⟩ (c_X6_mix l D a cI cL s12.1 (r17).toInt64 r18 hc _) (va_cwS 2 hts gX6_withPart_X6_mix rfl rfl rfl (by decide +kernel) ⟨Nat.le_of_ble_eq_true rfl, Nat.le_of_ble_eq_true rfl⟩) hK hN hP hD [] rfl (by decide) rfl hl.1 rfl (Nat.le_of_ble_eq_true rfl) dX6_withPart_102 ⟨Nat.le_of_ble_eq_true rfl, Nat.le_of_ble_eq_true rfl⟩) hP hD hS hA [] [0, 1, 2, 3, 4, 5, 6, 7, 8, 9, 10, 11, 12, 13, 14, 15] [0, 1, 2, 3, 4, 5, 6, 7, 8, 9, 10, 11, 12, 13, 14, 15] rfl rfl (by decide) (by decide) rfl (by decide) (fun H locs hP hD hS => ?_)
              clear hc
              refine lv_lstore (lv' := [(4, .long r18), (0, .ref (a 0)), (3, .int p1), (6, .int s12.2)]) hx hb dX6_withPart_105 hl (by decide) rfl (fun ls hl => ?_)
              have he := jx_eq hf
              subst he
              exact hJj16 _ _ _ hP hD hS (lv_sub hl [1, 2, 0, 3] rfl)
      exact hLk13 jx_F (k8, (0 : Int32)) _ _ _ hf hP hD hS (lv_sub hl [1, 2, 3, 0] rfl)
    have hLk8 : ∀ (n : Nat) (s7 : (Int64 × Int32)) (H : Heap) (locs : List Loc) (ls : Array Slot), jx_iter (pf_X6_withPart_s2 cm tr p1) n s7 = some k8 → va_P D vwCl (wX a cI cL pl cd bs br un ow ki th cm tr tl ch jl bz rw kf) H → va_D A (wX a cI cL pl cd bs br un ow ki th cm tr tl ch jl bz rw kf) → va_S A s.heap H locs → lv_has ls 7 [(0, .ref (a 0)), (3, .int p1), (4, .long s7.1), (6, .int s7.2)] → jx_Wl p l e wsX6_withPart ({ frames := 4, cells := 0, slots := 0, locals := 92 }) s m [.ref (a 0), .long p0, .int p1] below meth c D [(cI, .int), (cL, .long)] res (wX a cI cL pl cd bs br un ow ki th cm tr tl ch jl bz rw kf) A H locs (F0 m 42 ls []) := by
      clear hf hP hD hS hl
      intro n
      induction n with
      | zero => intro s7 _ _ _ hf; cases hf
      | succ n ihk8 =>
        intro s7 H locs ls hf hP hD hS hl
        obtain ⟨q9, hf, hgk8⟩ := jx_bs hf
        refine lv_iload hx hb dX6_withPart_42 (lv_at hl 3 rfl) ?_
        refine lv_bipush (v := 12) hx hb dX6_withPart_44 (by decide) ?_
        refine lv_icmp_ge (tgt := 70) hx hb dX6_withPart_46 (by decide) (fun hq => ?_) (fun hq => ?_)
        · replace hf := jx_pos hq hf
          have he := jx_eq hf
          subst he
          have he : _ = k8 := jx_eq hgk8
          subst he
          exact hXk8 _ _ _ hP hD hS (lv_sub hl [0, 1, 2] rfl)
        · replace hf := jx_neg hq hf
          refine lv_lload hx hb dX6_withPart_49 (lv_at hl 2 rfl) ?_
          refine lv_aload_n hx hb dX6_withPart_51 rfl (lv_at hl 0 rfl) ?_
          refine lv_iload_n hx hb dX6_withPart_52 rfl (lv_at hl 1 rfl) ?_
          refine lv_iload hx hb dX6_withPart_53 (lv_at hl 3 rfl) ?_
          obtain ⟨r10, hc, hf⟩ := jx_bs hf
          refine jx_ki (wr := []) (ws2 := (wX a cI cL pl cd bs br un ow ki th cm tr tl ch jl bz rw kf)) (jx_runV (As := [.int p1, .int s7.2]) (rest := [.long s7.1]) ⟨hx, hb, hml, hown, hts⟩ (c_X6_held l D a cI cL pl cd bs br un ow ki th cm tr tl ch jl bz rw kf p1 s7.2 r10 hc _) (cwV 2 hts gX6_withPart_X6_held rfl rfl rfl (by decide +kernel) ⟨Nat.le_of_ble_eq_true rfl, Nat.le_of_ble_eq_true rfl⟩) hK hN hP hD [0, 1, 2, 3, 4, 5, 6, 7, 8, 9, 10, 11, 12, 13, 14, 15] rfl (by decide) 0 5 rfl rfl rfl hl.1 rfl (Nat.le_of_ble_eq_true rfl) dX6_withPart_55 ⟨Nat.le_of_ble_eq_true rfl, Nat.le_of_ble_eq_true rfl⟩) hP hD hS hA [0, 1, 2, 3, 4, 5, 6, 7, 8, 9, 10, 11, 12, 13, 14, 15] [] [0, 1, 2, 3, 4, 5, 6, 7, 8, 9, 10, 11, 12, 13, 14, 15] rfl rfl (by decide) (by decide) rfl (by decide) (fun H locs hP hD hS => ?_)
          clear hc
          refine lv_i2l (v := (r10).toInt64) hx hb dX6_withPart_58 rfl ?_
          obtain ⟨r11, hc, hf⟩ := jx_bs hf
          refine jx_kl (wr := [((a 0), .inr (5, [.ref (a 1), .ref (a 3), .ref (a 5), .ref (a 11), .ref (a 13)])), ((a 1), .inr (2, [.ref (a 2), .int pl])), ((a 2), .inl (cI, 24, .inl cd)), ((a 3), .inr (0, [.ref (a 4), .int bs])), ((a 4), .inl (cL, 8, .inr (.inl br))), ((a 5), .inr (3, [.ref (a 6), .ref (a 7), .ref (a 8), .ref (a 9), .ref (a 10), .int tr, .int tl, .int ch])), ((a 6), .inl (cI, 8, .inl un)), ((a 7), .inl (cL, 8, .inr (.inl ow))), ((a 8), .inl (cI, 64, .inl ki)), ((a 9), .inl (cL, 64, .inr (.inl th))), ((a 10), .inl (cL, 8, .inr (.inl cm))), ((a 11), .inr (4, [.ref (a 5), .ref (a 12)])), ((a 12), .inl (cI, 8, .inl jl)), ((a 13), .inr (1, [.ref (a 5), .ref (a 14), .ref (a 15), .int kf])), ((a 14), .inl (cL, 256, .inr (.inl bz))), ((a 15), .inl (cL, 8, .inr (.inl rw)))]) (ws2 := (wX a cI cL pl cd bs br un ow ki th cm tr tl ch jl bz rw kf)) (jx_runS (As := [.long s7.1, .long (r10).toInt64]) (rest := []) ⟨hx, hb, hml, hown, hts⟩ (c_X6_mix l D a cI cL s7.1 (r10).toInt64 r11 hc _) (va_cwS 2 hts gX6_withPart_X6_mix rfl rfl rfl (by decide +kernel) ⟨Nat.le_of_ble_eq_true rfl, Nat.le_of_ble_eq_true rfl⟩) hK hN hP hD [] rfl (by decide) rfl hl.1 rfl (Nat.le_of_ble_eq_true rfl) dX6_withPart_59 ⟨Nat.le_of_ble_eq_true rfl, Nat.le_of_ble_eq_true rfl⟩) hP hD hS hA [] [0, 1, 2, 3, 4, 5, 6, 7, 8, 9, 10, 11, 12, 13, 14, 15] [0, 1, 2, 3, 4, 5, 6, 7, 8, 9, 10, 11, 12, 13, 14, 15] rfl rfl (by decide) (by decide) rfl (by decide) (fun H locs hP hD hS => ?_)
          clear hc
          refine lv_lstore (lv' := [(4, .long r11), (0, .ref (a 0)), (3, .int p1), (6, .int s7.2)]) hx hb dX6_withPart_62 hl (by decide) rfl (fun ls hl => ?_)
          refine lv_iinc (v := (s7.2 + (1 : Int32))) (lv' := [(6, .int (s7.2 + (1 : Int32))), (4, .long r11), (0, .ref (a 0)), (3, .int p1)]) hx hb dX6_withPart_64 hl (k := 3) rfl rfl (by decide) rfl (fun ls hl => ?_)
          refine lv_goto (tgt := 42) hx hb dX6_withPart_67 (by decide) ?_
          have he := jx_eq hf
          subst he
          exact ihk8 (r11, (s7.2 + (1 : Int32))) _ _ _ hgk8 hP hD hS (lv_sub hl [2, 3, 1, 0] rfl)
    exact hLk8 jx_F (k3, (0 : Int32)) _ _ _ hf hP hD hS (lv_sub hl [1, 2, 3, 0] rfl)
  have hLk3 : ∀ (n : Nat) (s2 : (Int64 × Int32)) (H : Heap) (locs : List Loc) (ls : Array Slot), jx_iter (pf_X6_withPart_s1 un ki cm tr p1) n s2 = some k3 → va_P D vwCl (wX a cI cL pl cd bs br un ow ki th cm tr tl ch jl bz rw kf) H → va_D A (wX a cI cL pl cd bs br un ow ki th cm tr tl ch jl bz rw kf) → va_S A s.heap H locs → lv_has ls 7 [(0, .ref (a 0)), (3, .int p1), (4, .long s2.1), (6, .int s2.2)] → jx_Wl p l e wsX6_withPart ({ frames := 4, cells := 0, slots := 0, locals := 92 }) s m [.ref (a 0), .long p0, .int p1] below meth c D [(cI, .int), (cL, .long)] res (wX a cI cL pl cd bs br un ow ki th cm tr tl ch jl bz rw kf) A H locs (F0 m 11 ls []) := by
    clear hf hP hD hS hl
    intro n
    induction n with
    | zero => intro s2 _ _ _ hf; cases hf
    | succ n ihk3 =>
      intro s2 H locs ls hf hP hD hS hl
      obtain ⟨q4, hf, hgk3⟩ := jx_bs hf
      refine lv_iload hx hb dX6_withPart_11 (lv_at hl 3 rfl) ?_
      refine lv_bipush (v := 6) hx hb dX6_withPart_13 (by decide) ?_
      refine lv_icmp_gt (tgt := 39) hx hb dX6_withPart_15 (by decide) (fun hq => ?_) (fun hq => ?_)
      · replace hf := jx_pos hq hf
        have he := jx_eq hf
        subst he
        have he : _ = k3 := jx_eq hgk3
        subst he
        exact hXk3 _ _ _ hP hD hS (lv_sub hl [0, 1, 2] rfl)
      · replace hf := jx_neg hq hf
        refine lv_lload hx hb dX6_withPart_18 (lv_at hl 2 rfl) ?_
        refine lv_aload_n hx hb dX6_withPart_20 rfl (lv_at hl 0 rfl) ?_
        refine lv_iload_n hx hb dX6_withPart_21 rfl (lv_at hl 1 rfl) ?_
        refine lv_iload hx hb dX6_withPart_22 (lv_at hl 3 rfl) ?_
        obtain ⟨r5, hc, hf⟩ := jx_bs hf
        refine jx_ki (wr := []) (ws2 := (wX a cI cL pl cd bs br un ow ki th cm tr tl ch jl bz rw kf)) (jx_runV (As := [.int p1, .int s2.2]) (rest := [.long s2.1]) ⟨hx, hb, hml, hown, hts⟩ (c_X6_of l D a cI cL pl cd bs br un ow ki th cm tr tl ch jl bz rw kf p1 s2.2 r5 hc _) (cwV 2 hts gX6_withPart_X6_of rfl rfl rfl (by decide +kernel) ⟨Nat.le_of_ble_eq_true rfl, Nat.le_of_ble_eq_true rfl⟩) hK hN hP hD [0, 1, 2, 3, 4, 5, 6, 7, 8, 9, 10, 11, 12, 13, 14, 15] rfl (by decide) 0 5 rfl rfl rfl hl.1 rfl (Nat.le_of_ble_eq_true rfl) dX6_withPart_24 ⟨Nat.le_of_ble_eq_true rfl, Nat.le_of_ble_eq_true rfl⟩) hP hD hS hA [0, 1, 2, 3, 4, 5, 6, 7, 8, 9, 10, 11, 12, 13, 14, 15] [] [0, 1, 2, 3, 4, 5, 6, 7, 8, 9, 10, 11, 12, 13, 14, 15] rfl rfl (by decide) (by decide) rfl (by decide) (fun H locs hP hD hS => ?_)
        clear hc
        refine lv_i2l (v := (r5).toInt64) hx hb dX6_withPart_27 rfl ?_
        obtain ⟨r6, hc, hf⟩ := jx_bs hf
        refine jx_kl (wr := [((a 0), .inr (5, [.ref (a 1), .ref (a 3), .ref (a 5), .ref (a 11), .ref (a 13)])), ((a 1), .inr (2, [.ref (a 2), .int pl])), ((a 2), .inl (cI, 24, .inl cd)), ((a 3), .inr (0, [.ref (a 4), .int bs])), ((a 4), .inl (cL, 8, .inr (.inl br))), ((a 5), .inr (3, [.ref (a 6), .ref (a 7), .ref (a 8), .ref (a 9), .ref (a 10), .int tr, .int tl, .int ch])), ((a 6), .inl (cI, 8, .inl un)), ((a 7), .inl (cL, 8, .inr (.inl ow))), ((a 8), .inl (cI, 64, .inl ki)), ((a 9), .inl (cL, 64, .inr (.inl th))), ((a 10), .inl (cL, 8, .inr (.inl cm))), ((a 11), .inr (4, [.ref (a 5), .ref (a 12)])), ((a 12), .inl (cI, 8, .inl jl)), ((a 13), .inr (1, [.ref (a 5), .ref (a 14), .ref (a 15), .int kf])), ((a 14), .inl (cL, 256, .inr (.inl bz))), ((a 15), .inl (cL, 8, .inr (.inl rw)))]) (ws2 := (wX a cI cL pl cd bs br un ow ki th cm tr tl ch jl bz rw kf)) (jx_runS (As := [.long s2.1, .long (r5).toInt64]) (rest := []) ⟨hx, hb, hml, hown, hts⟩ (c_X6_mix l D a cI cL s2.1 (r5).toInt64 r6 hc _) (va_cwS 2 hts gX6_withPart_X6_mix rfl rfl rfl (by decide +kernel) ⟨Nat.le_of_ble_eq_true rfl, Nat.le_of_ble_eq_true rfl⟩) hK hN hP hD [] rfl (by decide) rfl hl.1 rfl (Nat.le_of_ble_eq_true rfl) dX6_withPart_28 ⟨Nat.le_of_ble_eq_true rfl, Nat.le_of_ble_eq_true rfl⟩) hP hD hS hA [] [0, 1, 2, 3, 4, 5, 6, 7, 8, 9, 10, 11, 12, 13, 14, 15] [0, 1, 2, 3, 4, 5, 6, 7, 8, 9, 10, 11, 12, 13, 14, 15] rfl rfl (by decide) (by decide) rfl (by decide) (fun H locs hP hD hS => ?_)
        clear hc
        refine lv_lstore (lv' := [(4, .long r6), (0, .ref (a 0)), (3, .int p1), (6, .int s2.2)]) hx hb dX6_withPart_31 hl (by decide) rfl (fun ls hl => ?_)
        refine lv_iinc (v := (s2.2 + (1 : Int32))) (lv' := [(6, .int (s2.2 + (1 : Int32))), (4, .long r6), (0, .ref (a 0)), (3, .int p1)]) hx hb dX6_withPart_33 hl (k := 3) rfl rfl (by decide) rfl (fun ls hl => ?_)
        refine lv_goto (tgt := 11) hx hb dX6_withPart_36 (by decide) ?_
        have he := jx_eq hf
        subst he
        exact ihk3 (r6, (s2.2 + (1 : Int32))) _ _ _ hgk3 hP hD hS (lv_sub hl [2, 3, 1, 0] rfl)
  exact hLk3 jx_F (r1, (0 : Int32)) _ _ _ hf hP hD hS (lv_sub hl [2, 4, 1, 0] rfl)
theorem iw_X6_withClashes_X6 : ∀ w ∈ wsX60, w ∈ wsX6_withClashes := by decide +kernel
set_option maxHeartbeats 4000000 in
set_option maxRecDepth 100000 in
theorem c_X6_withClashes (l : Launch) (D : va_G) (a : Nat → Nat) (cI cL : ClassId) (pl : Int32) (cd : (Nat → Int32)) (bs : Int32) (br : (Nat → Int64)) (un : (Nat → Int32)) (ow : (Nat → Int64)) (ki : (Nat → Int32)) (th : (Nat → Int64)) (cm : (Nat → Int64)) (tr : Int32) (tl : Int32) (ch : Int32) (jl : (Nat → Int32)) (bz : (Nat → Int64)) (rw : (Nat → Int64)) (kf : Int32) (p0 : Int64) (res : (Int64 × (Nat → Int64) × (Nat → Int64) × Int32)) (hf : pf_X6_withClashes ow th cm tr ch bz rw kf p0 = some res) : jMl l yX6_withClashes wsX6_withClashes ({ frames := 5, cells := 0, slots := 0, locals := 110 }) D [(cI, .int), (cL, .long)] [.ref (a 0), .long p0] (wX a cI cL pl cd bs br un ow ki th cm tr tl ch jl bz rw kf) res.1 (wX a cI cL pl cd bs br un ow ki th cm tr tl ch jl res.2.1 res.2.2.1 res.2.2.2) := by
  intro sz
  refine Met.ofW (cc := cX6_withClashes) (maxL := 8) (ret := (some .long)) (by decide) rfl ?_
  intro p e s m args below meth c s₁ B hml hv
  obtain ⟨rfl, hsz, hP, hK, hD0, hN⟩ := hv
  have hx := B.exec
  have hb := B.bytes
  have hr := B.returns
  have hts := atoms_spec (ws := wsX6_withClashes) B.pre
  have hown : s.vm.findClass RX6 = some m.cls := findClass_of_methodNamed B.named
  have hlocks := B.notSynchronized
  subst hsz
  have hD := hD0.self (sz := s.heap.size)
  generalize hAe : va_A (wX a cI cL pl cd bs br un ow ki th cm tr tl ch jl bz rw kf) s.heap.size = A at hD ⊢
  have hA : ∀ q : Nat, s.heap.size ≤ q → A q := fun q h => by rw [← hAe]; exact Or.inr h
  have hS : va_S A s.heap s.heap [] := va_S.rf
  have hl := lv_entry ([.ref (a 0), .long p0]) (n := 8) (Nat.le_of_ble_eq_true rfl)
  rw [lg_entry_eq]
  generalize (lg_sl ([.ref (a 0), .long p0]) ++ List.replicate (8 - (lg_sl ([.ref (a 0), .long p0])).length) Slot.unset).toArray = ls at hl ⊢
  have hl : lv_has ls 8 [(0, .ref (a 0)), (1, .long p0)] := hl
  have hf : pf_X6_withClashes ow th cm tr ch bz rw kf p0 = some res := hf
  refine lv_lload_n hx hb dX6_withClashes_0 rfl (lv_at hl 1 rfl) ?_
  refine lv_lstore_n (lv' := [(3, .long p0), (0, .ref (a 0)), (1, .long p0)]) hx hb dX6_withClashes_1 rfl hl (by decide) rfl (fun ls hl => ?_)
  refine lv_aload_n hx hb dX6_withClashes_2 rfl (lv_at hl 1 rfl) ?_
  refine va_get (D := D) (ci := 5) (v := .ref (a 13)) (C := RX6) (T := TX6) (N := 5) hx hb hts iw_X6_withClashes_X6 hown hK hP 0 rfl rfl 4 (by decide) (hts (.fieldLink RX6 42 "PassedDuties" "clashes" "LPassedDuties$Clashes;") (by decide +kernel)) (fun _ h9 => h9) rfl dX6_withClashes_3 ?_
  obtain ⟨r1, hc, hf⟩ := jx_bs hf
  refine jx_kl (wr := [((a 0), .inr (5, [.ref (a 1), .ref (a 3), .ref (a 5), .ref (a 11), .ref (a 13)])), ((a 1), .inr (2, [.ref (a 2), .int pl])), ((a 2), .inl (cI, 24, .inl cd)), ((a 3), .inr (0, [.ref (a 4), .int bs])), ((a 4), .inl (cL, 8, .inr (.inl br))), ((a 11), .inr (4, [.ref (a 5), .ref (a 12)])), ((a 12), .inl (cI, 8, .inl jl))]) (ws2 := (wX a cI cL pl cd bs br un ow ki th cm tr tl ch jl bz rw kf)) (jx_runV (As := []) (rest := []) ⟨hx, hb, hml, hown, hts⟩ (c_X1_now l D a cI cL un ow ki th cm tr tl ch bz rw kf r1 hc _) (cwV 0 hts gX6_withClashes_X1_now rfl rfl rfl (by decide +kernel) ⟨Nat.le_of_ble_eq_true rfl, Nat.le_of_ble_eq_true rfl⟩) hK hN hP hD [13, 14, 15, 5, 6, 7, 8, 9, 10] rfl (by decide) 13 1 rfl rfl rfl hl.1 rfl (Nat.le_of_ble_eq_true rfl) dX6_withClashes_6 ⟨Nat.le_of_ble_eq_true rfl, Nat.le_of_ble_eq_true rfl⟩) hP hD hS hA [13, 14, 15, 5, 6, 7, 8, 9, 10] [0, 1, 2, 3, 4, 11, 12] [0, 1, 2, 3, 4, 10, 11, 12, 13, 14, 15, 5, 6, 7, 8, 9] rfl rfl (by decide) (by decide) rfl (by decide) (fun H locs hP hD hS => ?_)
  clear hc
  refine lv_lstore (lv' := [(5, .long r1), (3, .long p0), (0, .ref (a 0)), (1, .long p0)]) hx hb dX6_withClashes_9 hl (by decide) rfl (fun ls hl => ?_)
  refine lv_iconst (v := 0) hx hb dX6_withClashes_11 (by decide) ?_
  refine lv_istore (lv' := [(7, .int (0 : Int32)), (5, .long r1), (3, .long p0), (0, .ref (a 0)), (1, .long p0)]) hx hb dX6_withClashes_12 hl (by decide) rfl (fun ls hl => ?_)
  obtain ⟨k3, hf, hkk3⟩ := jx_bs hf
  have hXk3 : ∀ (H : Heap) (locs : List Loc) (ls : Array Slot), va_P D vwCl (wX a cI cL pl cd bs br un ow ki th cm tr tl ch jl k3.2.1 k3.2.2.1 k3.2.2.2) H → va_D A (wX a cI cL pl cd bs br un ow ki th cm tr tl ch jl k3.2.1 k3.2.2.1 k3.2.2.2) → va_S A s.heap H locs → lv_has ls 8 [(3, .long k3.1)] → jx_Wl p l e wsX6_withClashes ({ frames := 5, cells := 0, slots := 0, locals := 110 }) s m [.ref (a 0), .long p0] below meth c D [(cI, .int), (cL, .long)] (res.1) (wX a cI cL pl cd bs br un ow ki th cm tr tl ch jl res.2.1 res.2.2.1 res.2.2.2) A H locs (F0 m 60 ls []) := by
    clear hf hP hD hS hl
    intro H locs ls hP hD hS hl
    have hf := hkk3
    refine lv_lload_n hx hb dX6_withClashes_60 rfl (lv_at hl 0 rfl) ?_
    have he := jx_eq hf
    subst he
    exact jx_retl hx hb hr hlocks rfl hK hP hD hS dX6_withClashes_61
  have hLk3 : ∀ (n : Nat) (s2 : (Int64 × Int32 × (Nat → Int64) × (Nat → Int64) × Int32)) (H : Heap) (locs : List Loc) (ls : Array Slot), jx_iter (pf_X6_withClashes_s1 ow th cm tr ch r1) n s2 = some k3 → va_P D vwCl (wX a cI cL pl cd bs br un ow ki th cm tr tl ch jl s2.2.2.1 s2.2.2.2.1 s2.2.2.2.2) H → va_D A (wX a cI cL pl cd bs br un ow ki th cm tr tl ch jl s2.2.2.1 s2.2.2.2.1 s2.2.2.2.2) → va_S A s.heap H locs → lv_has ls 8 [(0, .ref (a 0)), (3, .long s2.1), (5, .long r1), (7, .int s2.2.1)] → jx_Wl p l e wsX6_withClashes ({ frames := 5, cells := 0, slots := 0, locals := 110 }) s m [.ref (a 0), .long p0] below meth c D [(cI, .int), (cL, .long)] (res.1) (wX a cI cL pl cd bs br un ow ki th cm tr tl ch jl res.2.1 res.2.2.1 res.2.2.2) A H locs (F0 m 14 ls []) := by
    clear hf hP hD hS hl
    intro n
    induction n with
    | zero => intro s2 _ _ _ hf; cases hf
    | succ n ihk3 =>
      intro s2 H locs ls hf hP hD hS hl
      obtain ⟨q4, hf, hgk3⟩ := jx_bs hf
      refine lv_iload hx hb dX6_withClashes_14 (lv_at hl 3 rfl) ?_
      refine lv_bipush (v := 48) hx hb dX6_withClashes_16 (by decide) ?_
      refine lv_icmp_ge (tgt := 60) hx hb dX6_withClashes_18 (by decide) (fun hq => ?_) (fun hq => ?_)
      · replace hf := jx_pos hq hf
        have he := jx_eq hf
        subst he
        have he : _ = k3 := jx_eq hgk3
        subst he
        exact hXk3 _ _ _ hP hD hS (lv_sub hl [1] rfl)
      · replace hf := jx_neg hq hf
        refine lv_lload hx hb dX6_withClashes_21 (lv_at hl 2 rfl) ?_
        refine lv_iload hx hb dX6_withClashes_23 (lv_at hl 3 rfl) ?_
        obtain ⟨r5, hc, hf⟩ := jx_bs hf
        refine jx_ki (wr := [((a 0), .inr (5, [.ref (a 1), .ref (a 3), .ref (a 5), .ref (a 11), .ref (a 13)])), ((a 1), .inr (2, [.ref (a 2), .int pl])), ((a 2), .inl (cI, 24, .inl cd)), ((a 3), .inr (0, [.ref (a 4), .int bs])), ((a 4), .inl (cL, 8, .inr (.inl br))), ((a 5), .inr (3, [.ref (a 6), .ref (a 7), .ref (a 8), .ref (a 9), .ref (a 10), .int tr, .int tl, .int ch])), ((a 6), .inl (cI, 8, .inl un)), ((a 7), .inl (cL, 8, .inr (.inl ow))), ((a 8), .inl (cI, 64, .inl ki)), ((a 9), .inl (cL, 64, .inr (.inl th))), ((a 10), .inl (cL, 8, .inr (.inl cm))), ((a 11), .inr (4, [.ref (a 5), .ref (a 12)])), ((a 12), .inl (cI, 8, .inl jl)), ((a 13), .inr (1, [.ref (a 5), .ref (a 14), .ref (a 15), .int s2.2.2.2.2])), ((a 14), .inl (cL, 256, .inr (.inl s2.2.2.1))), ((a 15), .inl (cL, 8, .inr (.inl s2.2.2.2.1)))]) (ws2 := (wX a cI cL pl cd bs br un ow ki th cm tr tl ch jl s2.2.2.1 s2.2.2.2.1 s2.2.2.2.2)) (jx_runS (As := [.long r1, .int s2.2.1]) (rest := []) ⟨hx, hb, hml, hown, hts⟩ (c_X6_isSet l D a cI cL r1 s2.2.1 r5 hc _) (va_cwS 2 hts gX6_withClashes_X6_isSet rfl rfl rfl (by decide +kernel) ⟨Nat.le_of_ble_eq_true rfl, Nat.le_of_ble_eq_true rfl⟩) hK hN hP hD [] rfl (by decide) rfl hl.1 rfl (Nat.le_of_ble_eq_true rfl) dX6_withClashes_25 ⟨Nat.le_of_ble_eq_true rfl, Nat.le_of_ble_eq_true rfl⟩) hP hD hS hA [] [0, 1, 2, 3, 4, 5, 6, 7, 8, 9, 10, 11, 12, 13, 14, 15] [0, 1, 2, 3, 4, 5, 6, 7, 8, 9, 10, 11, 12, 13, 14, 15] rfl rfl (by decide) (by decide) rfl (by decide) (fun H locs hP hD hS => ?_)
        clear hc
        obtain ⟨j6, hf, hkj6⟩ := jx_bs hf
        have hJj6 : ∀ (H : Heap) (locs : List Loc) (ls : Array Slot), va_P D vwCl (wX a cI cL pl cd bs br un ow ki th cm tr tl ch jl j6.2.1 j6.2.2.1 j6.2.2.2) H → va_D A (wX a cI cL pl cd bs br un ow ki th cm tr tl ch jl j6.2.1 j6.2.2.1 j6.2.2.2) → va_S A s.heap H locs → lv_has ls 8 [(0, .ref (a 0)), (3, .long j6.1), (5, .long r1), (7, .int s2.2.1)] → jx_Wl p l e wsX6_withClashes ({ frames := 5, cells := 0, slots := 0, locals := 110 }) s m [.ref (a 0), .long p0] below meth c D [(cI, .int), (cL, .long)] (res.1) (wX a cI cL pl cd bs br un ow ki th cm tr tl ch jl res.2.1 res.2.2.1 res.2.2.2) A H locs (F0 m 54 ls []) := by
          clear hf hP hD hS hl
          intro H locs ls hP hD hS hl
          have hf := hkj6
          refine lv_iinc (v := (s2.2.1 + (1 : Int32))) (lv' := [(7, .int (s2.2.1 + (1 : Int32))), (0, .ref (a 0)), (3, .long j6.1), (5, .long r1)]) hx hb dX6_withClashes_54 hl (k := 3) rfl rfl (by decide) rfl (fun ls hl => ?_)
          refine lv_goto (tgt := 14) hx hb dX6_withClashes_57 (by decide) ?_
          have he := jx_eq hf
          subst he
          exact ihk3 (j6.1, (s2.2.1 + (1 : Int32)), j6.2.1, j6.2.2.1, j6.2.2.2) _ _ _ hgk3 hP hD hS (lv_sub hl [1, 2, 3, 0] rfl)
        refine lv_if_eq (tgt := 54) hx hb dX6_withClashes_28 (by decide) (fun hq => ?_) (fun hq => ?_)
        · replace hf := jx_pos hq hf
          have he := jx_eq hf
          subst he
          exact hJj6 _ _ _ hP hD hS (lv_sub hl [0, 1, 2, 3] rfl)
        · replace hf := jx_neg hq hf
          refine lv_lload_n hx hb dX6_withClashes_31 rfl (lv_at hl 1 rfl) ?_
          refine lv_iload hx hb dX6_withClashes_32 (lv_at hl 3 rfl) ?_
          refine lv_i2l (v := (s2.2.1).toInt64) hx hb dX6_withClashes_34 rfl ?_
          obtain ⟨r7, hc, hf⟩ := jx_bs hf
          refine jx_kl (wr := [((a 0), .inr (5, [.ref (a 1), .ref (a 3), .ref (a 5), .ref (a 11), .ref (a 13)])), ((a 1), .inr (2, [.ref (a 2), .int pl])), ((a 2), .inl (cI, 24, .inl cd)), ((a 3), .inr (0, [.ref (a 4), .int bs])), ((a 4), .inl (cL, 8, .inr (.inl br))), ((a 5), .inr (3, [.ref (a 6), .ref (a 7), .ref (a 8), .ref (a 9), .ref (a 10), .int tr, .int tl, .int ch])), ((a 6), .inl (cI, 8, .inl un)), ((a 7), .inl (cL, 8, .inr (.inl ow))), ((a 8), .inl (cI, 64, .inl ki)), ((a 9), .inl (cL, 64, .inr (.inl th))), ((a 10), .inl (cL, 8, .inr (.inl cm))), ((a 11), .inr (4, [.ref (a 5), .ref (a 12)])), ((a 12), .inl (cI, 8, .inl jl)), ((a 13), .inr (1, [.ref (a 5), .ref (a 14), .ref (a 15), .int s2.2.2.2.2])), ((a 14), .inl (cL, 256, .inr (.inl s2.2.2.1))), ((a 15), .inl (cL, 8, .inr (.inl s2.2.2.2.1)))]) (ws2 := (wX a cI cL pl cd bs br un ow ki th cm tr tl ch jl s2.2.2.1 s2.2.2.2.1 s2.2.2.2.2)) (jx_runS (As := [.long s2.1, .long (s2.2.1).toInt64]) (rest := []) ⟨hx, hb, hml, hown, hts⟩ (c_X6_mix l D a cI cL s2.1 (s2.2.1).toInt64 r7 hc _) (va_cwS 2 hts gX6_withClashes_X6_mix rfl rfl rfl (by decide +kernel) ⟨Nat.le_of_ble_eq_true rfl, Nat.le_of_ble_eq_true rfl⟩) hK hN hP hD [] rfl (by decide) rfl hl.1 rfl (Nat.le_of_ble_eq_true rfl) dX6_withClashes_35 ⟨Nat.le_of_ble_eq_true rfl, Nat.le_of_ble_eq_true rfl⟩) hP hD hS hA [] [0, 1, 2, 3, 4, 5, 6, 7, 8, 9, 10, 11, 12, 13, 14, 15] [0, 1, 2, 3, 4, 5, 6, 7, 8, 9, 10, 11, 12, 13, 14, 15] rfl rfl (by decide) (by decide) rfl (by decide) (fun H locs hP hD hS => ?_)
          clear hc
          refine lv_lstore_n (lv' := [(3, .long r7), (0, .ref (a 0)), (5, .long r1), (7, .int s2.2.1)]) hx hb dX6_withClashes_38 rfl hl (by decide) rfl (fun ls hl => ?_)
          refine lv_lload_n hx hb dX6_withClashes_39 rfl (lv_at hl 0 rfl) ?_
          refine lv_aload_n hx hb dX6_withClashes_40 rfl (lv_at hl 1 rfl) ?_
          refine va_get (D := D) (ci := 5) (v := .ref (a 13)) (C := RX6) (T := TX6) (N := 5) hx hb hts iw_X6_withClashes_X6 hown hK hP 0 rfl rfl 4 (by decide) (hts (.fieldLink RX6 42 "PassedDuties" "clashes" "LPassedDuties$Clashes;") (by decide +kernel)) (fun _ h9 => h9) rfl dX6_withClashes_41 ?_
          refine lv_iload hx hb dX6_withClashes_44 (lv_at hl 3 rfl) ?_
          obtain ⟨r8, hc, hf⟩ := jx_bs hf
          refine jx_ki (wr := [((a 0), .inr (5, [.ref (a 1), .ref (a 3), .ref (a 5), .ref (a 11), .ref (a 13)])), ((a 1), .inr (2, [.ref (a 2), .int pl])), ((a 2), .inl (cI, 24, .inl cd)), ((a 3), .inr (0, [.ref (a 4), .int bs])), ((a 4), .inl (cL, 8, .inr (.inl br))), ((a 11), .inr (4, [.ref (a 5), .ref (a 12)])), ((a 12), .inl (cI, 8, .inl jl))]) (ws2 := (wX a cI cL pl cd bs br un ow ki th cm tr tl ch jl r8.2.1 r8.2.2.1 r8.2.2.2)) (jx_runV (As := [.int s2.2.1]) (rest := [.long r7]) ⟨hx, hb, hml, hown, hts⟩ (c_X1_fewestFor l D a cI cL un ow ki th cm tr tl ch s2.2.2.1 s2.2.2.2.1 s2.2.2.2.2 s2.2.1 r8 hc _) (cwV 1 hts gX6_withClashes_X1_fewestFor rfl rfl rfl (by decide +kernel) ⟨Nat.le_of_ble_eq_true rfl, Nat.le_of_ble_eq_true rfl⟩) hK hN hP hD [13, 14, 15, 5, 6, 7, 8, 9, 10] rfl (by decide) 13 1 rfl rfl rfl hl.1 rfl (Nat.le_of_ble_eq_true rfl) dX6_withClashes_46 ⟨Nat.le_of_ble_eq_true rfl, Nat.le_of_ble_eq_true rfl⟩) hP hD hS hA [13, 14, 15, 5, 6, 7, 8, 9, 10] [0, 1, 2, 3, 4, 11, 12] [0, 1, 2, 3, 4, 10, 11, 12, 13, 14, 15, 5, 6, 7, 8, 9] rfl rfl (by decide) (by decide) rfl (by decide) (fun H locs hP hD hS => ?_)
          clear hc
          refine lv_i2l (v := (r8.1).toInt64) hx hb dX6_withClashes_49 rfl ?_
          obtain ⟨r9, hc, hf⟩ := jx_bs hf
          refine jx_kl (wr := [((a 0), .inr (5, [.ref (a 1), .ref (a 3), .ref (a 5), .ref (a 11), .ref (a 13)])), ((a 1), .inr (2, [.ref (a 2), .int pl])), ((a 2), .inl (cI, 24, .inl cd)), ((a 3), .inr (0, [.ref (a 4), .int bs])), ((a 4), .inl (cL, 8, .inr (.inl br))), ((a 5), .inr (3, [.ref (a 6), .ref (a 7), .ref (a 8), .ref (a 9), .ref (a 10), .int tr, .int tl, .int ch])), ((a 6), .inl (cI, 8, .inl un)), ((a 7), .inl (cL, 8, .inr (.inl ow))), ((a 8), .inl (cI, 64, .inl ki)), ((a 9), .inl (cL, 64, .inr (.inl th))), ((a 10), .inl (cL, 8, .inr (.inl cm))), ((a 11), .inr (4, [.ref (a 5), .ref (a 12)])), ((a 12), .inl (cI, 8, .inl jl)), ((a 13), .inr (1, [.ref (a 5), .ref (a 14), .ref (a 15), .int r8.2.2.2])), ((a 14), .inl (cL, 256, .inr (.inl r8.2.1))), ((a 15), .inl (cL, 8, .inr (.inl r8.2.2.1)))]) (ws2 := (wX a cI cL pl cd bs br un ow ki th cm tr tl ch jl r8.2.1 r8.2.2.1 r8.2.2.2)) (jx_runS (As := [.long r7, .long (r8.1).toInt64]) (rest := []) ⟨hx, hb, hml, hown, hts⟩ (c_X6_mix l D a cI cL r7 (r8.1).toInt64 r9 hc _) (va_cwS 2 hts gX6_withClashes_X6_mix rfl rfl rfl (by decide +kernel) ⟨Nat.le_of_ble_eq_true rfl, Nat.le_of_ble_eq_true rfl⟩) hK hN hP hD [] rfl (by decide) rfl hl.1 rfl (Nat.le_of_ble_eq_true rfl) dX6_withClashes_50 ⟨Nat.le_of_ble_eq_true rfl, Nat.le_of_ble_eq_true rfl⟩) hP hD hS hA [] [0, 1, 2, 3, 4, 5, 6, 7, 8, 9, 10, 11, 12, 13, 14, 15] [0, 1, 2, 3, 4, 5, 6, 7, 8, 9, 10, 11, 12, 13, 14, 15] rfl rfl (by decide) (by decide) rfl (by decide) (fun H locs hP hD hS => ?_)
          clear hc
          refine lv_lstore_n (lv' := [(3, .long r9), (0, .ref (a 0)), (5, .long r1), (7, .int s2.2.1)]) hx hb dX6_withClashes_53 rfl hl (by decide) rfl (fun ls hl => ?_)
          have he := jx_eq hf
          subst he
          exact hJj6 _ _ _ hP hD hS (lv_sub hl [1, 0, 2, 3] rfl)
  exact hLk3 jx_F (p0, (0 : Int32), bz, rw, kf) _ _ _ hf hP hD hS (lv_sub hl [3, 2, 1, 0] rfl)
theorem iw_X6_digest_X2 : ∀ w ∈ wsX20, w ∈ wsX6_digest := by decide +kernel
theorem iw_X6_digest_X6 : ∀ w ∈ wsX60, w ∈ wsX6_digest := by decide +kernel
set_option maxHeartbeats 4000000 in
set_option maxRecDepth 100000 in
theorem c_X6_digest (l : Launch) (D : va_G) (a : Nat → Nat) (cI cL : ClassId) (pl : Int32) (cd : (Nat → Int32)) (bs : Int32) (br : (Nat → Int64)) (un : (Nat → Int32)) (ow : (Nat → Int64)) (ki : (Nat → Int32)) (th : (Nat → Int64)) (cm : (Nat → Int64)) (tr : Int32) (tl : Int32) (ch : Int32) (jl : (Nat → Int32)) (bz : (Nat → Int64)) (rw : (Nat → Int64)) (kf : Int32) (res : (Int64 × (Nat → Int64) × (Nat → Int64) × Int32)) (hf : pf_X6_digest pl cd bs br un ow ki th cm tr tl ch bz rw kf = some res) : jMl l yX6_digest wsX6_digest ({ frames := 6, cells := 0, slots := 0, locals := 137 }) D [(cI, .int), (cL, .long)] [.ref (a 0)] (wX a cI cL pl cd bs br un ow ki th cm tr tl ch jl bz rw kf) res.1 (wX a cI cL pl cd bs br un ow ki th cm tr tl ch jl res.2.1 res.2.2.1 res.2.2.2) := by
  intro sz
  refine Met.ofW (cc := cX6_digest) (maxL := 4) (ret := (some .long)) (by decide) rfl ?_
  intro p e s m args below meth c s₁ B hml hv
  obtain ⟨rfl, hsz, hP, hK, hD0, hN⟩ := hv
  have hx := B.exec
  have hb := B.bytes
  have hr := B.returns
  have hts := atoms_spec (ws := wsX6_digest) B.pre
  have hown : s.vm.findClass RX6 = some m.cls := findClass_of_methodNamed B.named
  have hlocks := B.notSynchronized
  subst hsz
  have hD := hD0.self (sz := s.heap.size)
  generalize hAe : va_A (wX a cI cL pl cd bs br un ow ki th cm tr tl ch jl bz rw kf) s.heap.size = A at hD ⊢
  have hA : ∀ q : Nat, s.heap.size ≤ q → A q := fun q h => by rw [← hAe]; exact Or.inr h
  have hS : va_S A s.heap s.heap [] := va_S.rf
  have hl := lv_entry ([.ref (a 0)]) (n := 4) (Nat.le_of_ble_eq_true rfl)
  rw [lg_entry_eq]
  generalize (lg_sl ([.ref (a 0)]) ++ List.replicate (4 - (lg_sl ([.ref (a 0)])).length) Slot.unset).toArray = ls at hl ⊢
  have hl : lv_has ls 4 [(0, .ref (a 0))] := hl
  have hf : pf_X6_digest pl cd bs br un ow ki th cm tr tl ch bz rw kf = some res := hf
  refine lv_aload_n hx hb dX6_digest_0 rfl (lv_at hl 0 rfl) ?_
  refine lv_ldc2 (v := 1697) hx hb hown (hts (.constantLong RX6 180 (1697)) (by decide +kernel)) dX6_digest_1 ?_
  obtain ⟨r1, hc, hf⟩ := jx_bs hf
  refine jx_kl (wr := []) (ws2 := (wX a cI cL pl cd bs br un ow ki th cm tr tl ch jl bz rw kf)) (jx_runV (As := [.long (1697 : Int64)]) (rest := []) ⟨hx, hb, hml, hown, hts⟩ (c_X6_withTerms l D a cI cL pl cd bs br un ow ki th cm tr tl ch jl bz rw kf (1697 : Int64) r1 hc _) (cwV 1 hts gX6_digest_X6_withTerms rfl rfl rfl (by decide +kernel) ⟨Nat.le_of_ble_eq_true rfl, Nat.le_of_ble_eq_true rfl⟩) hK hN hP hD [0, 1, 2, 3, 4, 5, 6, 7, 8, 9, 10, 11, 12, 13, 14, 15] rfl (by decide) 0 5 rfl rfl rfl hl.1 rfl (Nat.le_of_ble_eq_true rfl) dX6_digest_4 ⟨Nat.le_of_ble_eq_true rfl, Nat.le_of_ble_eq_true rfl⟩) hP hD hS hA [0, 1, 2, 3, 4, 5, 6, 7, 8, 9, 10, 11, 12, 13, 14, 15] [] [0, 1, 2, 3, 4, 5, 6, 7, 8, 9, 10, 11, 12, 13, 14, 15] rfl rfl (by decide) (by decide) rfl (by decide) (fun H locs hP hD hS => ?_)
  clear hc
  refine lv_lstore_n (lv' := [(1, .long r1), (0, .ref (a 0))]) hx hb dX6_digest_7 rfl hl (by decide) rfl (fun ls hl => ?_)
  refine lv_iconst (v := 0) hx hb dX6_digest_8 (by decide) ?_
  refine lv_istore_n (lv' := [(3, .int (0 : Int32)), (1, .long r1), (0, .ref (a 0))]) hx hb dX6_digest_9 rfl hl (by decide) rfl (fun ls hl => ?_)
  obtain ⟨k3, hf, hkk3⟩ := jx_bs hf
  have hXk3 : ∀ (H : Heap) (locs : List Loc) (ls : Array Slot), va_P D vwCl (wX a cI cL pl cd bs br un ow ki th cm tr tl ch jl bz rw kf) H → va_D A (wX a cI cL pl cd bs br un ow ki th cm tr tl ch jl bz rw kf) → va_S A s.heap H locs → lv_has ls 4 [(0, .ref (a 0)), (1, .long k3)] → jx_Wl p l e wsX6_digest ({ frames := 6, cells := 0, slots := 0, locals := 137 }) s m [.ref (a 0)] below meth c D [(cI, .int), (cL, .long)] (res.1) (wX a cI cL pl cd bs br un ow ki th cm tr tl ch jl res.2.1 res.2.2.1 res.2.2.2) A H locs (F0 m 40 ls []) := by
    clear hf hP hD hS hl
    intro H locs ls hP hD hS hl
    have hf := hkk3
    refine lv_aload_n hx hb dX6_digest_40 rfl (lv_at hl 0 rfl) ?_
    refine lv_lload_n hx hb dX6_digest_41 rfl (lv_at hl 1 rfl) ?_
    obtain ⟨r8, hc, hf⟩ := jx_bs hf
    refine jx_kl (wr := []) (ws2 := (wX a cI cL pl cd bs br un ow ki th cm tr tl ch jl r8.2.1 r8.2.2.1 r8.2.2.2)) (jx_runV (As := [.long k3]) (rest := []) ⟨hx, hb, hml, hown, hts⟩ (c_X6_withClashes l D a cI cL pl cd bs br un ow ki th cm tr tl ch jl bz rw kf k3 r8 hc _) (cwV 1 hts gX6_digest_X6_withClashes rfl rfl rfl (by decide +kernel) ⟨Nat.le_of_ble_eq_true rfl, Nat.le_of_ble_eq_true rfl⟩) hK hN hP hD [0, 1, 2, 3, 4, 5, 6, 7, 8, 9, 10, 11, 12, 13, 14, 15] rfl (by decide) 0 5 rfl rfl rfl hl.1 rfl (Nat.le_of_ble_eq_true rfl) dX6_digest_42 ⟨Nat.le_of_ble_eq_true rfl, Nat.le_of_ble_eq_true rfl⟩) hP hD hS hA [0, 1, 2, 3, 4, 5, 6, 7, 8, 9, 10, 11, 12, 13, 14, 15] [] [0, 1, 2, 3, 4, 5, 6, 7, 8, 9, 10, 11, 12, 13, 14, 15] rfl rfl (by decide) (by decide) rfl (by decide) (fun H locs hP hD hS => ?_)
    clear hc
    refine lv_lstore_n (lv' := [(1, .long r8.1), (0, .ref (a 0))]) hx hb dX6_digest_45 rfl hl (by decide) rfl (fun ls hl => ?_)
    refine lv_lload_n hx hb dX6_digest_46 rfl (lv_at hl 0 rfl) ?_
    refine lv_aload_n hx hb dX6_digest_47 rfl (lv_at hl 1 rfl) ?_
    obtain ⟨r9, hc, hf⟩ := jx_bs hf
    refine jx_ki (wr := []) (ws2 := (wX a cI cL pl cd bs br un ow ki th cm tr tl ch jl r9.2.1 r9.2.2.1 r9.2.2.2)) (jx_runV (As := []) (rest := [.long r8.1]) ⟨hx, hb, hml, hown, hts⟩ (c_X6_cure l D a cI cL pl cd bs br un ow ki th cm tr tl ch jl r8.2.1 r8.2.2.1 r8.2.2.2 r9 hc _) (cwV 0 hts gX6_digest_X6_cure rfl rfl rfl (by decide +kernel) ⟨Nat.le_of_ble_eq_true rfl, Nat.le_of_ble_eq_true rfl⟩) hK hN hP hD [0, 1, 2, 3, 4, 5, 6, 7, 8, 9, 10, 11, 12, 13, 14, 15] rfl (by decide) 0 5 rfl rfl rfl hl.1 rfl (Nat.le_of_ble_eq_true rfl) dX6_digest_48 ⟨Nat.le_of_ble_eq_true rfl, Nat.le_of_ble_eq_true rfl⟩) hP hD hS hA [0, 1, 2, 3, 4, 5, 6, 7, 8, 9, 10, 11, 12, 13, 14, 15] [] [0, 1, 2, 3, 4, 5, 6, 7, 8, 9, 10, 11, 12, 13, 14, 15] rfl rfl (by decide) (by decide) rfl (by decide) (fun H locs hP hD hS => ?_)
    clear hc
    refine lv_i2l (v := (r9.1).toInt64) hx hb dX6_digest_51 rfl ?_
    obtain ⟨r10, hc, hf⟩ := jx_bs hf
    refine jx_kl (wr := [((a 0), .inr (5, [.ref (a 1), .ref (a 3), .ref (a 5), .ref (a 11), .ref (a 13)])), ((a 1), .inr (2, [.ref (a 2), .int pl])), ((a 2), .inl (cI, 24, .inl cd)), ((a 3), .inr (0, [.ref (a 4), .int bs])), ((a 4), .inl (cL, 8, .inr (.inl br))), ((a 5), .inr (3, [.ref (a 6), .ref (a 7), .ref (a 8), .ref (a 9), .ref (a 10), .int tr, .int tl, .int ch])), ((a 6), .inl (cI, 8, .inl un)), ((a 7), .inl (cL, 8, .inr (.inl ow))), ((a 8), .inl (cI, 64, .inl ki)), ((a 9), .inl (cL, 64, .inr (.inl th))), ((a 10), .inl (cL, 8, .inr (.inl cm))), ((a 11), .inr (4, [.ref (a 5), .ref (a 12)])), ((a 12), .inl (cI, 8, .inl jl)), ((a 13), .inr (1, [.ref (a 5), .ref (a 14), .ref (a 15), .int r9.2.2.2])), ((a 14), .inl (cL, 256, .inr (.inl r9.2.1))), ((a 15), .inl (cL, 8, .inr (.inl r9.2.2.1)))]) (ws2 := (wX a cI cL pl cd bs br un ow ki th cm tr tl ch jl r9.2.1 r9.2.2.1 r9.2.2.2)) (jx_runS (As := [.long r8.1, .long (r9.1).toInt64]) (rest := []) ⟨hx, hb, hml, hown, hts⟩ (c_X6_mix l D a cI cL r8.1 (r9.1).toInt64 r10 hc _) (va_cwS 2 hts gX6_digest_X6_mix rfl rfl rfl (by decide +kernel) ⟨Nat.le_of_ble_eq_true rfl, Nat.le_of_ble_eq_true rfl⟩) hK hN hP hD [] rfl (by decide) rfl hl.1 rfl (Nat.le_of_ble_eq_true rfl) dX6_digest_52 ⟨Nat.le_of_ble_eq_true rfl, Nat.le_of_ble_eq_true rfl⟩) hP hD hS hA [] [0, 1, 2, 3, 4, 5, 6, 7, 8, 9, 10, 11, 12, 13, 14, 15] [0, 1, 2, 3, 4, 5, 6, 7, 8, 9, 10, 11, 12, 13, 14, 15] rfl rfl (by decide) (by decide) rfl (by decide) (fun H locs hP hD hS => ?_)
    clear hc
    refine lv_lstore_n (lv' := [(1, .long r10), (0, .ref (a 0))]) hx hb dX6_digest_55 rfl hl (by decide) rfl (fun ls hl => ?_)
    refine lv_iconst (v := 0) hx hb dX6_digest_56 (by decide) ?_
    refine lv_istore_n (lv' := [(3, .int (0 : Int32)), (1, .long r10), (0, .ref (a 0))]) hx hb dX6_digest_57 rfl hl (by decide) rfl (fun ls hl => ?_)
    obtain ⟨k12, hf, hkk12⟩ := jx_bs hf
    have hXk12 : ∀ (H : Heap) (locs : List Loc) (ls : Array Slot), va_P D vwCl (wX a cI cL pl cd bs br un ow ki th cm tr tl ch jl r9.2.1 r9.2.2.1 r9.2.2.2) H → va_D A (wX a cI cL pl cd bs br un ow ki th cm tr tl ch jl r9.2.1 r9.2.2.1 r9.2.2.2) → va_S A s.heap H locs → lv_has ls 4 [(0, .ref (a 0)), (1, .long k12)] → jx_Wl p l e wsX6_digest ({ frames := 6, cells := 0, slots := 0, locals := 137 }) s m [.ref (a 0)] below meth c D [(cI, .int), (cL, .long)] (res.1) (wX a cI cL pl cd bs br un ow ki th cm tr tl ch jl res.2.1 res.2.2.1 res.2.2.2) A H locs (F0 m 90 ls []) := by
      clear hf hP hD hS hl
      intro H locs ls hP hD hS hl
      have hf := hkk12
      refine lv_iconst (v := 0) hx hb dX6_digest_90 (by decide) ?_
      refine lv_istore_n (lv' := [(3, .int (0 : Int32)), (0, .ref (a 0)), (1, .long k12)]) hx hb dX6_digest_91 rfl hl (by decide) rfl (fun ls hl => ?_)
      obtain ⟨k16, hf, hkk16⟩ := jx_bs hf
      have hXk16 : ∀ (H : Heap) (locs : List Loc) (ls : Array Slot), va_P D vwCl (wX a cI cL pl cd bs br un ow ki th cm tr tl ch jl r9.2.1 r9.2.2.1 r9.2.2.2) H → va_D A (wX a cI cL pl cd bs br un ow ki th cm tr tl ch jl r9.2.1 r9.2.2.1 r9.2.2.2) → va_S A s.heap H locs → lv_has ls 4 [(1, .long k16)] → jx_Wl p l e wsX6_digest ({ frames := 6, cells := 0, slots := 0, locals := 137 }) s m [.ref (a 0)] below meth c D [(cI, .int), (cL, .long)] (res.1) (wX a cI cL pl cd bs br un ow ki th cm tr tl ch jl res.2.1 res.2.2.1 res.2.2.2) A H locs (F0 m 115 ls []) := by
        clear hf hP hD hS hl
        intro H locs ls hP hD hS hl
        have hf := hkk16
        refine lv_lload_n hx hb dX6_digest_115 rfl (lv_at hl 0 rfl) ?_
        have he := jx_eq hf
        subst he
        exact jx_retl hx hb hr hlocks rfl hK hP hD hS dX6_digest_116
      have hLk16 : ∀ (n : Nat) (s15 : (Int64 × Int32)) (H : Heap) (locs : List Loc) (ls : Array Slot), jx_iter (pf_X6_digest_s3 pl bs ki cm tr tl) n s15 = some k16 → va_P D vwCl (wX a cI cL pl cd bs br un ow ki th cm tr tl ch jl r9.2.1 r9.2.2.1 r9.2.2.2) H → va_D A (wX a cI cL pl cd bs br un ow ki th cm tr tl ch jl r9.2.1 r9.2.2.1 r9.2.2.2) → va_S A s.heap H locs → lv_has ls 4 [(0, .ref (a 0)), (1, .long s15.1), (3, .int s15.2)] → jx_Wl p l e wsX6_digest ({ frames := 6, cells := 0, slots := 0, locals := 137 }) s m [.ref (a 0)] below meth c D [(cI, .int), (cL, .long)] (res.1) (wX a cI cL pl cd bs br un ow ki th cm tr tl ch jl res.2.1 res.2.2.1 res.2.2.2) A H locs (F0 m 92 ls []) := by
        clear hf hP hD hS hl
        intro n
        induction n with
        | zero => intro s15 _ _ _ hf; cases hf
        | succ n ihk16 =>
          intro s15 H locs ls hf hP hD hS hl
          obtain ⟨q17, hf, hgk16⟩ := jx_bs hf
          refine lv_iload_n hx hb dX6_digest_92 rfl (lv_at hl 2 rfl) ?_
          refine lv_bipush (v := 7) hx hb dX6_digest_93 (by decide) ?_
          refine lv_icmp_gt (tgt := 115) hx hb dX6_digest_95 (by decide) (fun hq => ?_) (fun hq => ?_)
          · replace hf := jx_pos hq hf
            have he := jx_eq hf
            subst he
            have he : _ = k16 := jx_eq hgk16
            subst he
            exact hXk16 _ _ _ hP hD hS (lv_sub hl [1] rfl)
          · replace hf := jx_neg hq hf
            refine lv_lload_n hx hb dX6_digest_98 rfl (lv_at hl 1 rfl) ?_
            refine lv_aload_n hx hb dX6_digest_99 rfl (lv_at hl 0 rfl) ?_
            refine lv_iload_n hx hb dX6_digest_100 rfl (lv_at hl 2 rfl) ?_
            obtain ⟨r18, hc, hf⟩ := jx_bs hf
            refine jx_ki (wr := []) (ws2 := (wX a cI cL pl cd bs br un ow ki th cm tr tl ch jl r9.2.1 r9.2.2.1 r9.2.2.2)) (jx_runV (As := [.int s15.2]) (rest := [.long s15.1]) ⟨hx, hb, hml, hown, hts⟩ (c_X6_count l D a cI cL pl cd bs br un ow ki th cm tr tl ch jl r9.2.1 r9.2.2.1 r9.2.2.2 s15.2 r18 hc _) (cwV 1 hts gX6_digest_X6_count rfl rfl rfl (by decide +kernel) ⟨Nat.le_of_ble_eq_true rfl, Nat.le_of_ble_eq_true rfl⟩) hK hN hP hD [0, 1, 2, 3, 4, 5, 6, 7, 8, 9, 10, 11, 12, 13, 14, 15] rfl (by decide) 0 5 rfl rfl rfl hl.1 rfl (Nat.le_of_ble_eq_true rfl) dX6_digest_101 ⟨Nat.le_of_ble_eq_true rfl, Nat.le_of_ble_eq_true rfl⟩) hP hD hS hA [0, 1, 2, 3, 4, 5, 6, 7, 8, 9, 10, 11, 12, 13, 14, 15] [] [0, 1, 2, 3, 4, 5, 6, 7, 8, 9, 10, 11, 12, 13, 14, 15] rfl rfl (by decide) (by decide) rfl (by decide) (fun H locs hP hD hS => ?_)
            clear hc
            refine lv_i2l (v := (r18).toInt64) hx hb dX6_digest_104 rfl ?_
            obtain ⟨r19, hc, hf⟩ := jx_bs hf
            refine jx_kl (wr := [((a 0), .inr (5, [.ref (a 1), .ref (a 3), .ref (a 5), .ref (a 11), .ref (a 13)])), ((a 1), .inr (2, [.ref (a 2), .int pl])), ((a 2), .inl (cI, 24, .inl cd)), ((a 3), .inr (0, [.ref (a 4), .int bs])), ((a 4), .inl (cL, 8, .inr (.inl br))), ((a 5), .inr (3, [.ref (a 6), .ref (a 7), .ref (a 8), .ref (a 9), .ref (a 10), .int tr, .int tl, .int ch])), ((a 6), .inl (cI, 8, .inl un)), ((a 7), .inl (cL, 8, .inr (.inl ow))), ((a 8), .inl (cI, 64, .inl ki)), ((a 9), .inl (cL, 64, .inr (.inl th))), ((a 10), .inl (cL, 8, .inr (.inl cm))), ((a 11), .inr (4, [.ref (a 5), .ref (a 12)])), ((a 12), .inl (cI, 8, .inl jl)), ((a 13), .inr (1, [.ref (a 5), .ref (a 14), .ref (a 15), .int r9.2.2.2])), ((a 14), .inl (cL, 256, .inr (.inl r9.2.1))), ((a 15), .inl (cL, 8, .inr (.inl r9.2.2.1)))]) (ws2 := (wX a cI cL pl cd bs br un ow ki th cm tr tl ch jl r9.2.1 r9.2.2.1 r9.2.2.2)) (jx_runS (As := [.long s15.1, .long (r18).toInt64]) (rest := []) ⟨hx, hb, hml, hown, hts⟩ (c_X6_mix l D a cI cL s15.1 (r18).toInt64 r19 hc _) (va_cwS 2 hts gX6_digest_X6_mix rfl rfl rfl (by decide +kernel) ⟨Nat.le_of_ble_eq_true rfl, Nat.le_of_ble_eq_true rfl⟩) hK hN hP hD [] rfl (by decide) rfl hl.1 rfl (Nat.le_of_ble_eq_true rfl) dX6_digest_105 ⟨Nat.le_of_ble_eq_true rfl, Nat.le_of_ble_eq_true rfl⟩) hP hD hS hA [] [0, 1, 2, 3, 4, 5, 6, 7, 8, 9, 10, 11, 12, 13, 14, 15] [0, 1, 2, 3, 4, 5, 6, 7, 8, 9, 10, 11, 12, 13, 14, 15] rfl rfl (by decide) (by decide) rfl (by decide) (fun H locs hP hD hS => ?_)
            clear hc
            refine lv_lstore_n (lv' := [(1, .long r19), (0, .ref (a 0)), (3, .int s15.2)]) hx hb dX6_digest_108 rfl hl (by decide) rfl (fun ls hl => ?_)
            refine lv_iinc (v := (s15.2 + (1 : Int32))) (lv' := [(3, .int (s15.2 + (1 : Int32))), (1, .long r19), (0, .ref (a 0))]) hx hb dX6_digest_109 hl (k := 2) rfl rfl (by decide) rfl (fun ls hl => ?_)
            refine lv_goto (tgt := 92) hx hb dX6_digest_112 (by decide) ?_
            have he := jx_eq hf
            subst he
            exact ihk16 (r19, (s15.2 + (1 : Int32))) _ _ _ hgk16 hP hD hS (lv_sub hl [2, 1, 0] rfl)
      exact hLk16 jx_F (k12, (0 : Int32)) _ _ _ hf hP hD hS (lv_sub hl [1, 2, 0] rfl)
    have hLk12 : ∀ (n : Nat) (s11 : (Int64 × Int32)) (H : Heap) (locs : List Loc) (ls : Array Slot), jx_iter (pf_X6_digest_s2 pl cd) n s11 = some k12 → va_P D vwCl (wX a cI cL pl cd bs br un ow ki th cm tr tl ch jl r9.2.1 r9.2.2.1 r9.2.2.2) H → va_D A (wX a cI cL pl cd bs br un ow ki th cm tr tl ch jl r9.2.1 r9.2.2.1 r9.2.2.2) → va_S A s.heap H locs → lv_has ls 4 [(0, .ref (a 0)), (1, .long s11.1), (3, .int s11.2)] → jx_Wl p l e wsX6_digest ({ frames := 6, cells := 0, slots := 0, locals := 137 }) s m [.ref (a 0)] below meth c D [(cI, .int), (cL, .long)] (res.1) (wX a cI cL pl cd bs br un ow ki th cm tr tl ch jl res.2.1 res.2.2.1 res.2.2.2) A H locs (F0 m 58 ls []) := by
      clear hf hP hD hS hl
      intro n
      induction n with
      | zero => intro s11 _ _ _ hf; cases hf
      | succ n ihk12 =>
        intro s11 H locs ls hf hP hD hS hl
        obtain ⟨q13, hf, hgk12⟩ := jx_bs hf
        refine lv_iload_n hx hb dX6_digest_58 rfl (lv_at hl 2 rfl) ?_
        refine lv_aload_n hx hb dX6_digest_59 rfl (lv_at hl 0 rfl) ?_
        refine va_get (D := D) (ci := 5) (v := .ref (a 1)) (C := RX6) (T := TX6) (N := 5) hx hb hts iw_X6_digest_X6 hown hK hP 0 rfl rfl 0 (by decide) (hts (.fieldLink RX6 12 "PassedDuties" "page" "LPassedDuties$Page;") (by decide +kernel)) (fun _ h9 => h9) rfl dX6_digest_60 ?_
        refine va_getN (D := D) (ci := 2) (v := .int pl) (C := RX2) (T := TX2) (N := 2) hx hb hts iw_X6_digest_X2 hown hK hP 1 rfl rfl 1 (by decide) (va_Nw.use rfl (hN (.fieldLinkNest "PassedDuties" 46 "PassedDuties$Page" "length" "I" "PassedDuties") (by decide +kernel))) (fun _ h9 => h9) rfl dX6_digest_63 ?_
        refine lv_icmp_ge (tgt := 90) hx hb dX6_digest_66 (by decide) (fun hq => ?_) (fun hq => ?_)
        · replace hf := jx_pos hq hf
          have he := jx_eq hf
          subst he
          have he : _ = k12 := jx_eq hgk12
          subst he
          exact hXk12 _ _ _ hP hD hS (lv_sub hl [0, 1] rfl)
        · replace hf := jx_neg hq hf
          refine lv_lload_n hx hb dX6_digest_69 rfl (lv_at hl 1 rfl) ?_
          refine lv_aload_n hx hb dX6_digest_70 rfl (lv_at hl 0 rfl) ?_
          refine va_get (D := D) (ci := 5) (v := .ref (a 1)) (C := RX6) (T := TX6) (N := 5) hx hb hts iw_X6_digest_X6 hown hK hP 0 rfl rfl 0 (by decide) (hts (.fieldLink RX6 12 "PassedDuties" "page" "LPassedDuties$Page;") (by decide +kernel)) (fun _ h9 => h9) rfl dX6_digest_71 ?_
          refine va_getN (D := D) (ci := 2) (v := .ref (a 2)) (C := RX2) (T := TX2) (N := 2) hx hb hts iw_X6_digest_X2 hown hK hP 1 rfl rfl 0 (by decide) (va_Nw.use rfl (hN (.fieldLinkNest "PassedDuties" 200 "PassedDuties$Page" "codes" "[I" "PassedDuties") (by decide +kernel))) (fun _ h9 => h9) rfl dX6_digest_74 ?_
          refine lv_iload_n hx hb dX6_digest_77 rfl (lv_at hl 2 rfl) ?_
          obtain ⟨hi, hf⟩ := jx_gs hf
          refine va_iald hx hb hK hP 2 0 rfl rfl (jx_ip hi) dX6_digest_78 ?_
          clear hi
          refine lv_i2l (v := ((cd (s11.2).toNatClampNeg)).toInt64) hx hb dX6_digest_79 rfl ?_
          obtain ⟨r14, hc, hf⟩ := jx_bs hf
          refine jx_kl (wr := [((a 0), .inr (5, [.ref (a 1), .ref (a 3), .ref (a 5), .ref (a 11), .ref (a 13)])), ((a 1), .inr (2, [.ref (a 2), .int pl])), ((a 2), .inl (cI, 24, .inl cd)), ((a 3), .inr (0, [.ref (a 4), .int bs])), ((a 4), .inl (cL, 8, .inr (.inl br))), ((a 5), .inr (3, [.ref (a 6), .ref (a 7), .ref (a 8), .ref (a 9), .ref (a 10), .int tr, .int tl, .int ch])), ((a 6), .inl (cI, 8, .inl un)), ((a 7), .inl (cL, 8, .inr (.inl ow))), ((a 8), .inl (cI, 64, .inl ki)), ((a 9), .inl (cL, 64, .inr (.inl th))), ((a 10), .inl (cL, 8, .inr (.inl cm))), ((a 11), .inr (4, [.ref (a 5), .ref (a 12)])), ((a 12), .inl (cI, 8, .inl jl)), ((a 13), .inr (1, [.ref (a 5), .ref (a 14), .ref (a 15), .int r9.2.2.2])), ((a 14), .inl (cL, 256, .inr (.inl r9.2.1))), ((a 15), .inl (cL, 8, .inr (.inl r9.2.2.1)))]) (ws2 := (wX a cI cL pl cd bs br un ow ki th cm tr tl ch jl r9.2.1 r9.2.2.1 r9.2.2.2)) (jx_runS (As := [.long s11.1, .long ((cd (s11.2).toNatClampNeg)).toInt64]) (rest := []) ⟨hx, hb, hml, hown, hts⟩ (c_X6_mix l D a cI cL s11.1 ((cd (s11.2).toNatClampNeg)).toInt64 r14 hc _) (va_cwS 2 hts gX6_digest_X6_mix rfl rfl rfl (by decide +kernel) ⟨Nat.le_of_ble_eq_true rfl, Nat.le_of_ble_eq_true rfl⟩) hK hN hP hD [] rfl (by decide) rfl hl.1 rfl (Nat.le_of_ble_eq_true rfl) dX6_digest_80 ⟨Nat.le_of_ble_eq_true rfl, Nat.le_of_ble_eq_true rfl⟩) hP hD hS hA [] [0, 1, 2, 3, 4, 5, 6, 7, 8, 9, 10, 11, 12, 13, 14, 15] [0, 1, 2, 3, 4, 5, 6, 7, 8, 9, 10, 11, 12, 13, 14, 15] rfl rfl (by decide) (by decide) rfl (by decide) (fun H locs hP hD hS => ?_)
          clear hc
          refine lv_lstore_n (lv' := [(1, .long r14), (0, .ref (a 0)), (3, .int s11.2)]) hx hb dX6_digest_83 rfl hl (by decide) rfl (fun ls hl => ?_)
          refine lv_iinc (v := (s11.2 + (1 : Int32))) (lv' := [(3, .int (s11.2 + (1 : Int32))), (1, .long r14), (0, .ref (a 0))]) hx hb dX6_digest_84 hl (k := 2) rfl rfl (by decide) rfl (fun ls hl => ?_)
          refine lv_goto (tgt := 58) hx hb dX6_digest_87 (by decide) ?_
          have he := jx_eq hf
          subst he
          exact ihk12 (r14, (s11.2 + (1 : Int32))) _ _ _ hgk12 hP hD hS (lv_sub hl [2, 1, 0] rfl)
    exact hLk12 jx_F (r10, (0 : Int32)) _ _ _ hf hP hD hS (lv_sub hl [2, 1, 0] rfl)
  have hLk3 : ∀ (n : Nat) (s2 : (Int64 × Int32)) (H : Heap) (locs : List Loc) (ls : Array Slot), jx_iter (pf_X6_digest_s1 un ki cm tr) n s2 = some k3 → va_P D vwCl (wX a cI cL pl cd bs br un ow ki th cm tr tl ch jl bz rw kf) H → va_D A (wX a cI cL pl cd bs br un ow ki th cm tr tl ch jl bz rw kf) → va_S A s.heap H locs → lv_has ls 4 [(0, .ref (a 0)), (1, .long s2.1), (3, .int s2.2)] → jx_Wl p l e wsX6_digest ({ frames := 6, cells := 0, slots := 0, locals := 137 }) s m [.ref (a 0)] below meth c D [(cI, .int), (cL, .long)] (res.1) (wX a cI cL pl cd bs br un ow ki th cm tr tl ch jl res.2.1 res.2.2.1 res.2.2.2) A H locs (F0 m 10 ls []) := by
    clear hf hP hD hS hl
    intro n
    induction n with
    | zero => intro s2 _ _ _ hf; cases hf
    | succ n ihk3 =>
      intro s2 H locs ls hf hP hD hS hl
      obtain ⟨q4, hf, hgk3⟩ := jx_bs hf
      refine lv_iload_n hx hb dX6_digest_10 rfl (lv_at hl 2 rfl) ?_
      refine lv_bipush (v := 8) hx hb dX6_digest_11 (by decide) ?_
      refine lv_icmp_ge (tgt := 40) hx hb dX6_digest_13 (by decide) (fun hq => ?_) (fun hq => ?_)
      · replace hf := jx_pos hq hf
        have he := jx_eq hf
        subst he
        have he : _ = k3 := jx_eq hgk3
        subst he
        exact hXk3 _ _ _ hP hD hS (lv_sub hl [0, 1] rfl)
      · replace hf := jx_neg hq hf
        refine lv_aload_n hx hb dX6_digest_16 rfl (lv_at hl 0 rfl) ?_
        refine va_get (D := D) (ci := 5) (v := .ref (a 5)) (C := RX6) (T := TX6) (N := 5) hx hb hts iw_X6_digest_X6 hown hK hP 0 rfl rfl 2 (by decide) (hts (.fieldLink RX6 26 "PassedDuties" "parts" "LPassedDuties$Parts;") (by decide +kernel)) (fun _ h9 => h9) rfl dX6_digest_17 ?_
        refine lv_iload_n hx hb dX6_digest_20 rfl (lv_at hl 2 rfl) ?_
        obtain ⟨r5, hc, hf⟩ := jx_bs hf
        refine jx_ki (wr := [((a 0), .inr (5, [.ref (a 1), .ref (a 3), .ref (a 5), .ref (a 11), .ref (a 13)])), ((a 1), .inr (2, [.ref (a 2), .int pl])), ((a 2), .inl (cI, 24, .inl cd)), ((a 3), .inr (0, [.ref (a 4), .int bs])), ((a 4), .inl (cL, 8, .inr (.inl br))), ((a 11), .inr (4, [.ref (a 5), .ref (a 12)])), ((a 12), .inl (cI, 8, .inl jl)), ((a 13), .inr (1, [.ref (a 5), .ref (a 14), .ref (a 15), .int kf])), ((a 14), .inl (cL, 256, .inr (.inl bz))), ((a 15), .inl (cL, 8, .inr (.inl rw)))]) (ws2 := (wX a cI cL pl cd bs br un ow ki th cm tr tl ch jl bz rw kf)) (jx_runV (As := [.int s2.2]) (rest := []) ⟨hx, hb, hml, hown, hts⟩ (c_X3_has l D a cI cL un ow ki th cm tr tl ch s2.2 r5 hc _) (cwV 1 hts gX6_digest_X3_has rfl rfl rfl (by decide +kernel) ⟨Nat.le_of_ble_eq_true rfl, Nat.le_of_ble_eq_true rfl⟩) hK hN hP hD [5, 6, 7, 8, 9, 10] rfl (by decide) 5 3 rfl rfl rfl hl.1 rfl (Nat.le_of_ble_eq_true rfl) dX6_digest_21 ⟨Nat.le_of_ble_eq_true rfl, Nat.le_of_ble_eq_true rfl⟩) hP hD hS hA [5, 6, 7, 8, 9, 10] [0, 1, 2, 3, 4, 11, 12, 13, 14, 15] [0, 1, 2, 3, 4, 10, 11, 12, 13, 14, 15, 5, 6, 7, 8, 9] rfl rfl (by decide) (by decide) rfl (by decide) (fun H locs hP hD hS => ?_)
        clear hc
        obtain ⟨j6, hf, hkj6⟩ := jx_bs hf
        have hJj6 : ∀ (H : Heap) (locs : List Loc) (ls : Array Slot), va_P D vwCl (wX a cI cL pl cd bs br un ow ki th cm tr tl ch jl bz rw kf) H → va_D A (wX a cI cL pl cd bs br un ow ki th cm tr tl ch jl bz rw kf) → va_S A s.heap H locs → lv_has ls 4 [(0, .ref (a 0)), (1, .long j6), (3, .int s2.2)] → jx_Wl p l e wsX6_digest ({ frames := 6, cells := 0, slots := 0, locals := 137 }) s m [.ref (a 0)] below meth c D [(cI, .int), (cL, .long)] (res.1) (wX a cI cL pl cd bs br un ow ki th cm tr tl ch jl res.2.1 res.2.2.1 res.2.2.2) A H locs (F0 m 34 ls []) := by
          clear hf hP hD hS hl
          intro H locs ls hP hD hS hl
          have hf := hkj6
          refine lv_iinc (v := (s2.2 + (1 : Int32))) (lv' := [(3, .int (s2.2 + (1 : Int32))), (0, .ref (a 0)), (1, .long j6)]) hx hb dX6_digest_34 hl (k := 2) rfl rfl (by decide) rfl (fun ls hl => ?_)
          refine lv_goto (tgt := 10) hx hb dX6_digest_37 (by decide) ?_
          have he := jx_eq hf
          subst he
          exact ihk3 (j6, (s2.2 + (1 : Int32))) _ _ _ hgk3 hP hD hS (lv_sub hl [1, 2, 0] rfl)
        refine lv_if_eq (tgt := 34) hx hb dX6_digest_24 (by decide) (fun hq => ?_) (fun hq => ?_)
        · replace hf := jx_pos hq hf
          have he := jx_eq hf
          subst he
          exact hJj6 _ _ _ hP hD hS (lv_sub hl [0, 1, 2] rfl)
        · replace hf := jx_neg hq hf
          refine lv_aload_n hx hb dX6_digest_27 rfl (lv_at hl 0 rfl) ?_
          refine lv_lload_n hx hb dX6_digest_28 rfl (lv_at hl 1 rfl) ?_
          refine lv_iload_n hx hb dX6_digest_29 rfl (lv_at hl 2 rfl) ?_
          obtain ⟨r7, hc, hf⟩ := jx_bs hf
          refine jx_kl (wr := []) (ws2 := (wX a cI cL pl cd bs br un ow ki th cm tr tl ch jl bz rw kf)) (jx_runV (As := [.long s2.1, .int s2.2]) (rest := []) ⟨hx, hb, hml, hown, hts⟩ (c_X6_withPart l D a cI cL pl cd bs br un ow ki th cm tr tl ch jl bz rw kf s2.1 s2.2 r7 hc _) (cwV 2 hts gX6_digest_X6_withPart rfl rfl rfl (by decide +kernel) ⟨Nat.le_of_ble_eq_true rfl, Nat.le_of_ble_eq_true rfl⟩) hK hN hP hD [0, 1, 2, 3, 4, 5, 6, 7, 8, 9, 10, 11, 12, 13, 14, 15] rfl (by decide) 0 5 rfl rfl rfl hl.1 rfl (Nat.le_of_ble_eq_true rfl) dX6_digest_30 ⟨Nat.le_of_ble_eq_true rfl, Nat.le_of_ble_eq_true rfl⟩) hP hD hS hA [0, 1, 2, 3, 4, 5, 6, 7, 8, 9, 10, 11, 12, 13, 14, 15] [] [0, 1, 2, 3, 4, 5, 6, 7, 8, 9, 10, 11, 12, 13, 14, 15] rfl rfl (by decide) (by decide) rfl (by decide) (fun H locs hP hD hS => ?_)
          clear hc
          refine lv_lstore_n (lv' := [(1, .long r7), (0, .ref (a 0)), (3, .int s2.2)]) hx hb dX6_digest_33 rfl hl (by decide) rfl (fun ls hl => ?_)
          have he := jx_eq hf
          subst he
          exact hJj6 _ _ _ hP hD hS (lv_sub hl [1, 0, 2] rfl)
  exact hLk3 jx_F (r1, (0 : Int32)) _ _ _ hf hP hD hS (lv_sub hl [2, 1, 0] rfl)
theorem iw_X6_give_X0 : ∀ w ∈ wsX00, w ∈ wsX6_give := by decide +kernel
theorem iw_X6_give_X3 : ∀ w ∈ wsX30, w ∈ wsX6_give := by decide +kernel
theorem iw_X6_give_X6 : ∀ w ∈ wsX60, w ∈ wsX6_give := by decide +kernel
set_option maxHeartbeats 4000000 in
set_option maxRecDepth 100000 in
theorem c_X6_give (l : Launch) (D : va_G) (a : Nat → Nat) (cI cL : ClassId) (pl : Int32) (cd : (Nat → Int32)) (bs : Int32) (br : (Nat → Int64)) (un : (Nat → Int32)) (ow : (Nat → Int64)) (ki : (Nat → Int32)) (th : (Nat → Int64)) (cm : (Nat → Int64)) (tr : Int32) (tl : Int32) (ch : Int32) (jl : (Nat → Int32)) (bz : (Nat → Int64)) (rw : (Nat → Int64)) (kf : Int32) (p0 : Int32) (p1 : Int32) (res : (Int32 × (Nat → Int32) × (Nat → Int64) × (Nat → Int64) × Int32 × Int32)) (hf : pf_X6_give bs br un ow th cm tr ch p0 p1 = some res) : jMi l yX6_give wsX6_give ({ frames := 4, cells := 0, slots := 0, locals := 96 }) D [(cI, .int), (cL, .long)] [.ref (a 0), .int p0, .int p1] (wX a cI cL pl cd bs br un ow ki th cm tr tl ch jl bz rw kf) res.1 (wX a cI cL pl cd bs br res.2.1 res.2.2.1 ki th res.2.2.2.1 res.2.2.2.2.1 tl res.2.2.2.2.2 jl bz rw kf) := by
  intro sz
  refine Met.ofW (cc := cX6_give) (maxL := 4) (ret := (some .int)) (by decide) rfl ?_
  intro p e s m args below meth c s₁ B hml hv
  obtain ⟨rfl, hsz, hP, hK, hD0, hN⟩ := hv
  have hx := B.exec
  have hb := B.bytes
  have hr := B.returns
  have hts := atoms_spec (ws := wsX6_give) B.pre
  have hown : s.vm.findClass RX6 = some m.cls := findClass_of_methodNamed B.named
  have hlocks := B.notSynchronized
  subst hsz
  have hD := hD0.self (sz := s.heap.size)
  generalize hAe : va_A (wX a cI cL pl cd bs br un ow ki th cm tr tl ch jl bz rw kf) s.heap.size = A at hD ⊢
  have hA : ∀ q : Nat, s.heap.size ≤ q → A q := fun q h => by rw [← hAe]; exact Or.inr h
  have hS : va_S A s.heap s.heap [] := va_S.rf
  have hl := lv_entry ([.ref (a 0), .int p0, .int p1]) (n := 4) (Nat.le_of_ble_eq_true rfl)
  rw [lg_entry_eq]
  generalize (lg_sl ([.ref (a 0), .int p0, .int p1]) ++ List.replicate (4 - (lg_sl ([.ref (a 0), .int p0, .int p1])).length) Slot.unset).toArray = ls at hl ⊢
  have hl : lv_has ls 4 [(0, .ref (a 0)), (1, .int p0), (2, .int p1)] := hl
  have hf : pf_X6_give bs br un ow th cm tr ch p0 p1 = some res := hf
  refine lv_aload_n hx hb dX6_give_0 rfl (lv_at hl 0 rfl) ?_
  refine va_get (D := D) (ci := 5) (v := .ref (a 5)) (C := RX6) (T := TX6) (N := 5) hx hb hts iw_X6_give_X6 hown hK hP 0 rfl rfl 2 (by decide) (hts (.fieldLink RX6 26 "PassedDuties" "parts" "LPassedDuties$Parts;") (by decide +kernel)) (fun _ h9 => h9) rfl dX6_give_1 ?_
  refine lv_iload_n hx hb dX6_give_4 rfl (lv_at hl 1 rfl) ?_
  obtain ⟨r1, hc, hf⟩ := jx_bs hf
  refine jx_ki (wr := [((a 0), .inr (5, [.ref (a 1), .ref (a 3), .ref (a 5), .ref (a 11), .ref (a 13)])), ((a 1), .inr (2, [.ref (a 2), .int pl])), ((a 2), .inl (cI, 24, .inl cd)), ((a 3), .inr (0, [.ref (a 4), .int bs])), ((a 4), .inl (cL, 8, .inr (.inl br))), ((a 11), .inr (4, [.ref (a 5), .ref (a 12)])), ((a 12), .inl (cI, 8, .inl jl)), ((a 13), .inr (1, [.ref (a 5), .ref (a 14), .ref (a 15), .int kf])), ((a 14), .inl (cL, 256, .inr (.inl bz))), ((a 15), .inl (cL, 8, .inr (.inl rw)))]) (ws2 := (wX a cI cL pl cd bs br un ow ki th cm tr tl ch jl bz rw kf)) (jx_runV (As := [.int p0]) (rest := []) ⟨hx, hb, hml, hown, hts⟩ (c_X3_has l D a cI cL un ow ki th cm tr tl ch p0 r1 hc _) (cwV 1 hts gX6_give_X3_has rfl rfl rfl (by decide +kernel) ⟨Nat.le_of_ble_eq_true rfl, Nat.le_of_ble_eq_true rfl⟩) hK hN hP hD [5, 6, 7, 8, 9, 10] rfl (by decide) 5 3 rfl rfl rfl hl.1 rfl (Nat.le_of_ble_eq_true rfl) dX6_give_5 ⟨Nat.le_of_ble_eq_true rfl, Nat.le_of_ble_eq_true rfl⟩) hP hD hS hA [5, 6, 7, 8, 9, 10] [0, 1, 2, 3, 4, 11, 12, 13, 14, 15] [0, 1, 2, 3, 4, 10, 11, 12, 13, 14, 15, 5, 6, 7, 8, 9] rfl rfl (by decide) (by decide) rfl (by decide) (fun H locs hP hD hS => ?_)
  clear hc
  refine lv_if_eq (tgt := 22) hx hb dX6_give_8 (by decide) (fun hq => ?_) (fun hq => ?_)
  · replace hf := jx_pos hq hf
    refine lv_sipush (v := -1001) hx hb dX6_give_22 (by decide) ?_
    have he := jx_eq hf
    subst he
    exact jx_reti hx hb hr hlocks rfl hK hP hD hS dX6_give_25
  · replace hf := jx_neg hq hf
    refine lv_aload_n hx hb dX6_give_11 rfl (lv_at hl 0 rfl) ?_
    refine va_get (D := D) (ci := 5) (v := .ref (a 3)) (C := RX6) (T := TX6) (N := 5) hx hb hts iw_X6_give_X6 hown hK hP 0 rfl rfl 1 (by decide) (hts (.fieldLink RX6 19 "PassedDuties" "book" "LPassedDuties$Book;") (by decide +kernel)) (fun _ h9 => h9) rfl dX6_give_12 ?_
    refine lv_iload_n hx hb dX6_give_15 rfl (lv_at hl 2 rfl) ?_
    obtain ⟨r2, hc, hf⟩ := jx_bs hf
    refine jx_ki (wr := [((a 0), .inr (5, [.ref (a 1), .ref (a 3), .ref (a 5), .ref (a 11), .ref (a 13)])), ((a 1), .inr (2, [.ref (a 2), .int pl])), ((a 2), .inl (cI, 24, .inl cd)), ((a 5), .inr (3, [.ref (a 6), .ref (a 7), .ref (a 8), .ref (a 9), .ref (a 10), .int tr, .int tl, .int ch])), ((a 6), .inl (cI, 8, .inl un)), ((a 7), .inl (cL, 8, .inr (.inl ow))), ((a 8), .inl (cI, 64, .inl ki)), ((a 9), .inl (cL, 64, .inr (.inl th))), ((a 10), .inl (cL, 8, .inr (.inl cm))), ((a 11), .inr (4, [.ref (a 5), .ref (a 12)])), ((a 12), .inl (cI, 8, .inl jl)), ((a 13), .inr (1, [.ref (a 5), .ref (a 14), .ref (a 15), .int kf])), ((a 14), .inl (cL, 256, .inr (.inl bz))), ((a 15), .inl (cL, 8, .inr (.inl rw)))]) (ws2 := (wX a cI cL pl cd bs br un ow ki th cm tr tl ch jl bz rw kf)) (jx_runV (As := [.int p1]) (rest := []) ⟨hx, hb, hml, hown, hts⟩ (c_X0_has l D a cI cL bs br p1 r2 hc _) (cwV 1 hts gX6_give_X0_has rfl rfl rfl (by decide +kernel) ⟨Nat.le_of_ble_eq_true rfl, Nat.le_of_ble_eq_true rfl⟩) hK hN hP hD [3, 4] rfl (by decide) 3 0 rfl rfl rfl hl.1 rfl (Nat.le_of_ble_eq_true rfl) dX6_give_16 ⟨Nat.le_of_ble_eq_true rfl, Nat.le_of_ble_eq_true rfl⟩) hP hD hS hA [3, 4] [0, 1, 2, 5, 6, 7, 8, 9, 10, 11, 12, 13, 14, 15] [0, 1, 2, 14, 15, 3, 4, 5, 6, 7, 8, 9, 10, 11, 12, 13] rfl rfl (by decide) (by decide) rfl (by decide) (fun H locs hP hD hS => ?_)
    clear hc
    refine lv_if_ne (tgt := 26) hx hb dX6_give_19 (by decide) (fun hq => ?_) (fun hq => ?_)
    · replace hf := jx_pos hq hf
      refine lv_aload_n hx hb dX6_give_26 rfl (lv_at hl 0 rfl) ?_
      refine va_get (D := D) (ci := 5) (v := .ref (a 5)) (C := RX6) (T := TX6) (N := 5) hx hb hts iw_X6_give_X6 hown hK hP 0 rfl rfl 2 (by decide) (hts (.fieldLink RX6 26 "PassedDuties" "parts" "LPassedDuties$Parts;") (by decide +kernel)) (fun _ h9 => h9) rfl dX6_give_27 ?_
      refine va_getN (D := D) (ci := 3) (v := .ref (a 6)) (C := RX3) (T := TX3) (N := 8) hx hb hts iw_X6_give_X3 hown hK hP 5 rfl rfl 0 (by decide) (va_Nw.use rfl (hN (.fieldLinkNest "PassedDuties" 101 "PassedDuties$Parts" "under" "[I" "PassedDuties") (by decide +kernel))) (fun _ h9 => h9) rfl dX6_give_30 ?_
      refine lv_iload_n hx hb dX6_give_33 rfl (lv_at hl 1 rfl) ?_
      obtain ⟨hi, hf⟩ := jx_gs hf
      refine va_iald hx hb hK hP 6 0 rfl rfl (jx_ip hi) dX6_give_34 ?_
      clear hi
      refine lv_istore_n (lv' := [(3, .int (un (p0).toNatClampNeg)), (0, .ref (a 0)), (1, .int p0), (2, .int p1)]) hx hb dX6_give_35 rfl hl (by decide) rfl (fun ls hl => ?_)
      refine lv_aload_n hx hb dX6_give_36 rfl (lv_at hl 1 rfl) ?_
      refine va_get (D := D) (ci := 5) (v := .ref (a 5)) (C := RX6) (T := TX6) (N := 5) hx hb hts iw_X6_give_X6 hown hK hP 0 rfl rfl 2 (by decide) (hts (.fieldLink RX6 26 "PassedDuties" "parts" "LPassedDuties$Parts;") (by decide +kernel)) (fun _ h9 => h9) rfl dX6_give_37 ?_
      refine lv_iload_n hx hb dX6_give_40 rfl (lv_at hl 2 rfl) ?_
      refine lv_iload_n hx hb dX6_give_41 rfl (lv_at hl 3 rfl) ?_
      refine lv_aload_n hx hb dX6_give_42 rfl (lv_at hl 1 rfl) ?_
      refine va_get (D := D) (ci := 5) (v := .ref (a 3)) (C := RX6) (T := TX6) (N := 5) hx hb hts iw_X6_give_X6 hown hK hP 0 rfl rfl 1 (by decide) (hts (.fieldLink RX6 19 "PassedDuties" "book" "LPassedDuties$Book;") (by decide +kernel)) (fun _ h9 => h9) rfl dX6_give_43 ?_
      refine va_getN (D := D) (ci := 0) (v := .ref (a 4)) (C := RX0) (T := TX0) (N := 2) hx hb hts iw_X6_give_X0 hown hK hP 3 rfl rfl 0 (by decide) (va_Nw.use rfl (hN (.fieldLinkNest "PassedDuties" 76 "PassedDuties$Book" "rows" "[J" "PassedDuties") (by decide +kernel))) (fun _ h9 => h9) rfl dX6_give_46 ?_
      refine lv_iload_n hx hb dX6_give_49 rfl (lv_at hl 3 rfl) ?_
      obtain ⟨hi, hf⟩ := jx_gs hf
      refine va_lald hx hb hK hP 4 1 rfl rfl (jx_ip hi) dX6_give_50 ?_
      clear hi
      obtain ⟨r3, hc, hf⟩ := jx_bs hf
      refine jx_kv (wr := [((a 0), .inr (5, [.ref (a 1), .ref (a 3), .ref (a 5), .ref (a 11), .ref (a 13)])), ((a 1), .inr (2, [.ref (a 2), .int pl])), ((a 2), .inl (cI, 24, .inl cd)), ((a 3), .inr (0, [.ref (a 4), .int bs])), ((a 4), .inl (cL, 8, .inr (.inl br))), ((a 11), .inr (4, [.ref (a 5), .ref (a 12)])), ((a 12), .inl (cI, 8, .inl jl)), ((a 13), .inr (1, [.ref (a 5), .ref (a 14), .ref (a 15), .int kf])), ((a 14), .inl (cL, 256, .inr (.inl bz))), ((a 15), .inl (cL, 8, .inr (.inl rw)))]) (ws2 := (wX a cI cL pl cd bs br r3.1 r3.2.1 ki th r3.2.2.1 r3.2.2.2.1 tl r3.2.2.2.2 jl bz rw kf)) (jx_runV (As := [.int p0, .int p1, .long (br (p1).toNatClampNeg)]) (rest := []) ⟨hx, hb, hml, hown, hts⟩ (c_X3_put l D a cI cL un ow ki th cm tr tl ch p0 p1 (br (p1).toNatClampNeg) r3 hc _) (cwV 3 hts gX6_give_X3_put rfl rfl rfl (by decide +kernel) ⟨Nat.le_of_ble_eq_true rfl, Nat.le_of_ble_eq_true rfl⟩) hK hN hP hD [5, 6, 7, 8, 9, 10] rfl (by decide) 5 3 rfl rfl rfl hl.1 rfl (Nat.le_of_ble_eq_true rfl) dX6_give_51 ⟨Nat.le_of_ble_eq_true rfl, Nat.le_of_ble_eq_true rfl⟩) hP hD hS hA [5, 6, 7, 8, 9, 10] [0, 1, 2, 3, 4, 11, 12, 13, 14, 15] [0, 1, 2, 3, 4, 10, 11, 12, 13, 14, 15, 5, 6, 7, 8, 9] rfl rfl (by decide) (by decide) rfl (by decide) (fun H locs hP hD hS => ?_)
      clear hc
      refine lv_iload_n hx hb dX6_give_54 rfl (lv_at hl 0 rfl) ?_
      have he := jx_eq hf
      subst he
      exact jx_reti hx hb hr hlocks rfl hK hP hD hS dX6_give_55
    · replace hf := jx_negn hq hf
      refine lv_sipush (v := -1001) hx hb dX6_give_22 (by decide) ?_
      have he := jx_eq hf
      subst he
      exact jx_reti hx hb hr hlocks rfl hK hP hD hS dX6_give_25
theorem iw_X6_join_X6 : ∀ w ∈ wsX60, w ∈ wsX6_join := by decide +kernel
set_option maxHeartbeats 4000000 in
set_option maxRecDepth 100000 in
theorem c_X6_join (l : Launch) (D : va_G) (a : Nat → Nat) (cI cL : ClassId) (pl : Int32) (cd : (Nat → Int32)) (bs : Int32) (br : (Nat → Int64)) (un : (Nat → Int32)) (ow : (Nat → Int64)) (ki : (Nat → Int32)) (th : (Nat → Int64)) (cm : (Nat → Int64)) (tr : Int32) (tl : Int32) (ch : Int32) (jl : (Nat → Int32)) (bz : (Nat → Int64)) (rw : (Nat → Int64)) (kf : Int32) (p0 : Int32) (p1 : Int32) (p2 : Int32) (res : (Int32 × (Nat → Int32) × (Nat → Int64) × (Nat → Int64) × Int32)) (hf : pf_X6_join ow ki th cm tr ch p0 p1 p2 = some res) : jMi l yX6_join wsX6_join ({ frames := 4, cells := 0, slots := 0, locals := 95 }) D [(cI, .int), (cL, .long)] [.ref (a 0), .int p0, .int p1, .int p2] (wX a cI cL pl cd bs br un ow ki th cm tr tl ch jl bz rw kf) res.1 (wX a cI cL pl cd bs br un ow res.2.1 res.2.2.1 res.2.2.2.1 tr tl res.2.2.2.2 jl bz rw kf) := by
  intro sz
  refine Met.ofW (cc := cX6_join) (maxL := 5) (ret := (some .int)) (by decide) rfl ?_
  intro p e s m args below meth c s₁ B hml hv
  obtain ⟨rfl, hsz, hP, hK, hD0, hN⟩ := hv
  have hx := B.exec
  have hb := B.bytes
  have hr := B.returns
  have hts := atoms_spec (ws := wsX6_join) B.pre
  have hown : s.vm.findClass RX6 = some m.cls := findClass_of_methodNamed B.named
  have hlocks := B.notSynchronized
  subst hsz
  have hD := hD0.self (sz := s.heap.size)
  generalize hAe : va_A (wX a cI cL pl cd bs br un ow ki th cm tr tl ch jl bz rw kf) s.heap.size = A at hD ⊢
  have hA : ∀ q : Nat, s.heap.size ≤ q → A q := fun q h => by rw [← hAe]; exact Or.inr h
  have hS : va_S A s.heap s.heap [] := va_S.rf
  have hl := lv_entry ([.ref (a 0), .int p0, .int p1, .int p2]) (n := 5) (Nat.le_of_ble_eq_true rfl)
  rw [lg_entry_eq]
  generalize (lg_sl ([.ref (a 0), .int p0, .int p1, .int p2]) ++ List.replicate (5 - (lg_sl ([.ref (a 0), .int p0, .int p1, .int p2])).length) Slot.unset).toArray = ls at hl ⊢
  have hl : lv_has ls 5 [(0, .ref (a 0)), (1, .int p0), (2, .int p1), (3, .int p2)] := hl
  have hf : pf_X6_join ow ki th cm tr ch p0 p1 p2 = some res := hf
  refine lv_aload_n hx hb dX6_join_0 rfl (lv_at hl 0 rfl) ?_
  refine va_get (D := D) (ci := 5) (v := .ref (a 5)) (C := RX6) (T := TX6) (N := 5) hx hb hts iw_X6_join_X6 hown hK hP 0 rfl rfl 2 (by decide) (hts (.fieldLink RX6 26 "PassedDuties" "parts" "LPassedDuties$Parts;") (by decide +kernel)) (fun _ h9 => h9) rfl dX6_join_1 ?_
  refine lv_iload_n hx hb dX6_join_4 rfl (lv_at hl 1 rfl) ?_
  obtain ⟨r1, hc, hf⟩ := jx_bs hf
  refine jx_ki (wr := [((a 0), .inr (5, [.ref (a 1), .ref (a 3), .ref (a 5), .ref (a 11), .ref (a 13)])), ((a 1), .inr (2, [.ref (a 2), .int pl])), ((a 2), .inl (cI, 24, .inl cd)), ((a 3), .inr (0, [.ref (a 4), .int bs])), ((a 4), .inl (cL, 8, .inr (.inl br))), ((a 11), .inr (4, [.ref (a 5), .ref (a 12)])), ((a 12), .inl (cI, 8, .inl jl)), ((a 13), .inr (1, [.ref (a 5), .ref (a 14), .ref (a 15), .int kf])), ((a 14), .inl (cL, 256, .inr (.inl bz))), ((a 15), .inl (cL, 8, .inr (.inl rw)))]) (ws2 := (wX a cI cL pl cd bs br un ow ki th cm tr tl ch jl bz rw kf)) (jx_runV (As := [.int p0]) (rest := []) ⟨hx, hb, hml, hown, hts⟩ (c_X3_has l D a cI cL un ow ki th cm tr tl ch p0 r1 hc _) (cwV 1 hts gX6_join_X3_has rfl rfl rfl (by decide +kernel) ⟨Nat.le_of_ble_eq_true rfl, Nat.le_of_ble_eq_true rfl⟩) hK hN hP hD [5, 6, 7, 8, 9, 10] rfl (by decide) 5 3 rfl rfl rfl hl.1 rfl (Nat.le_of_ble_eq_true rfl) dX6_join_5 ⟨Nat.le_of_ble_eq_true rfl, Nat.le_of_ble_eq_true rfl⟩) hP hD hS hA [5, 6, 7, 8, 9, 10] [0, 1, 2, 3, 4, 11, 12, 13, 14, 15] [0, 1, 2, 3, 4, 10, 11, 12, 13, 14, 15, 5, 6, 7, 8, 9] rfl rfl (by decide) (by decide) rfl (by decide) (fun H locs hP hD hS => ?_)
  clear hc
  refine lv_if_eq (tgt := 27) hx hb dX6_join_8 (by decide) (fun hq => ?_) (fun hq => ?_)
  · replace hf := jx_pos hq hf
    refine lv_sipush (v := -1001) hx hb dX6_join_27 (by decide) ?_
    have he := jx_eq hf
    subst he
    exact jx_reti hx hb hr hlocks rfl hK hP hD hS dX6_join_30
  · replace hf := jx_neg hq hf
    refine lv_aload_n hx hb dX6_join_11 rfl (lv_at hl 0 rfl) ?_
    refine va_get (D := D) (ci := 5) (v := .ref (a 5)) (C := RX6) (T := TX6) (N := 5) hx hb hts iw_X6_join_X6 hown hK hP 0 rfl rfl 2 (by decide) (hts (.fieldLink RX6 26 "PassedDuties" "parts" "LPassedDuties$Parts;") (by decide +kernel)) (fun _ h9 => h9) rfl dX6_join_12 ?_
    refine lv_iload_n hx hb dX6_join_15 rfl (lv_at hl 2 rfl) ?_
    obtain ⟨r2, hc, hf⟩ := jx_bs hf
    refine jx_ki (wr := [((a 0), .inr (5, [.ref (a 1), .ref (a 3), .ref (a 5), .ref (a 11), .ref (a 13)])), ((a 1), .inr (2, [.ref (a 2), .int pl])), ((a 2), .inl (cI, 24, .inl cd)), ((a 3), .inr (0, [.ref (a 4), .int bs])), ((a 4), .inl (cL, 8, .inr (.inl br))), ((a 11), .inr (4, [.ref (a 5), .ref (a 12)])), ((a 12), .inl (cI, 8, .inl jl)), ((a 13), .inr (1, [.ref (a 5), .ref (a 14), .ref (a 15), .int kf])), ((a 14), .inl (cL, 256, .inr (.inl bz))), ((a 15), .inl (cL, 8, .inr (.inl rw)))]) (ws2 := (wX a cI cL pl cd bs br un ow ki th cm tr tl ch jl bz rw kf)) (jx_runV (As := [.int p1]) (rest := []) ⟨hx, hb, hml, hown, hts⟩ (c_X3_has l D a cI cL un ow ki th cm tr tl ch p1 r2 hc _) (cwV 1 hts gX6_join_X3_has rfl rfl rfl (by decide +kernel) ⟨Nat.le_of_ble_eq_true rfl, Nat.le_of_ble_eq_true rfl⟩) hK hN hP hD [5, 6, 7, 8, 9, 10] rfl (by decide) 5 3 rfl rfl rfl hl.1 rfl (Nat.le_of_ble_eq_true rfl) dX6_join_16 ⟨Nat.le_of_ble_eq_true rfl, Nat.le_of_ble_eq_true rfl⟩) hP hD hS hA [5, 6, 7, 8, 9, 10] [0, 1, 2, 3, 4, 11, 12, 13, 14, 15] [0, 1, 2, 3, 4, 10, 11, 12, 13, 14, 15, 5, 6, 7, 8, 9] rfl rfl (by decide) (by decide) rfl (by decide) (fun H locs hP hD hS => ?_)
    clear hc
    refine lv_if_eq (tgt := 27) hx hb dX6_join_19 (by decide) (fun hq => ?_) (fun hq => ?_)
    · replace hf := jx_pos hq hf
      refine lv_sipush (v := -1001) hx hb dX6_join_27 (by decide) ?_
      have he := jx_eq hf
      subst he
      exact jx_reti hx hb hr hlocks rfl hK hP hD hS dX6_join_30
    · replace hf := jx_neg hq hf
      refine lv_iload_n hx hb dX6_join_22 rfl (lv_at hl 1 rfl) ?_
      refine lv_iload_n hx hb dX6_join_23 rfl (lv_at hl 2 rfl) ?_
      refine lv_icmp_ne (tgt := 31) hx hb dX6_join_24 (by decide) (fun hq => ?_) (fun hq => ?_)
      · replace hf := jx_pos hq hf
        refine lv_iload_n hx hb dX6_join_31 rfl (lv_at hl 3 rfl) ?_
        refine lv_iconst (v := -1) hx hb dX6_join_32 (by decide) ?_
        refine lv_icmp_lt (tgt := 41) hx hb dX6_join_33 (by decide) (fun hq => ?_) (fun hq => ?_)
        · replace hf := jx_pos hq hf
          refine lv_sipush (v := -1002) hx hb dX6_join_41 (by decide) ?_
          have he := jx_eq hf
          subst he
          exact jx_reti hx hb hr hlocks rfl hK hP hD hS dX6_join_44
        · replace hf := jx_neg hq hf
          refine lv_iload_n hx hb dX6_join_36 rfl (lv_at hl 3 rfl) ?_
          refine lv_iconst (v := 3) hx hb dX6_join_37 (by decide) ?_
          refine lv_icmp_le (tgt := 45) hx hb dX6_join_38 (by decide) (fun hq => ?_) (fun hq => ?_)
          · replace hf := jx_pos hq hf
            refine lv_aload_n hx hb dX6_join_45 rfl (lv_at hl 0 rfl) ?_
            refine va_get (D := D) (ci := 5) (v := .ref (a 5)) (C := RX6) (T := TX6) (N := 5) hx hb hts iw_X6_join_X6 hown hK hP 0 rfl rfl 2 (by decide) (hts (.fieldLink RX6 26 "PassedDuties" "parts" "LPassedDuties$Parts;") (by decide +kernel)) (fun _ h9 => h9) rfl dX6_join_46 ?_
            refine lv_iload_n hx hb dX6_join_49 rfl (lv_at hl 1 rfl) ?_
            refine lv_iload_n hx hb dX6_join_50 rfl (lv_at hl 2 rfl) ?_
            obtain ⟨r3, hc, hf⟩ := jx_bs hf
            refine jx_ki (wr := [((a 0), .inr (5, [.ref (a 1), .ref (a 3), .ref (a 5), .ref (a 11), .ref (a 13)])), ((a 1), .inr (2, [.ref (a 2), .int pl])), ((a 2), .inl (cI, 24, .inl cd)), ((a 3), .inr (0, [.ref (a 4), .int bs])), ((a 4), .inl (cL, 8, .inr (.inl br))), ((a 11), .inr (4, [.ref (a 5), .ref (a 12)])), ((a 12), .inl (cI, 8, .inl jl)), ((a 13), .inr (1, [.ref (a 5), .ref (a 14), .ref (a 15), .int kf])), ((a 14), .inl (cL, 256, .inr (.inl bz))), ((a 15), .inl (cL, 8, .inr (.inl rw)))]) (ws2 := (wX a cI cL pl cd bs br un ow ki th cm tr tl ch jl bz rw kf)) (jx_runV (As := [.int p0, .int p1]) (rest := []) ⟨hx, hb, hml, hown, hts⟩ (c_X3_kindOf l D a cI cL un ow ki th cm tr tl ch p0 p1 r3 hc _) (cwV 2 hts gX6_join_X3_kindOf rfl rfl rfl (by decide +kernel) ⟨Nat.le_of_ble_eq_true rfl, Nat.le_of_ble_eq_true rfl⟩) hK hN hP hD [5, 6, 7, 8, 9, 10] rfl (by decide) 5 3 rfl rfl rfl hl.1 rfl (Nat.le_of_ble_eq_true rfl) dX6_join_51 ⟨Nat.le_of_ble_eq_true rfl, Nat.le_of_ble_eq_true rfl⟩) hP hD hS hA [5, 6, 7, 8, 9, 10] [0, 1, 2, 3, 4, 11, 12, 13, 14, 15] [0, 1, 2, 3, 4, 10, 11, 12, 13, 14, 15, 5, 6, 7, 8, 9] rfl rfl (by decide) (by decide) rfl (by decide) (fun H locs hP hD hS => ?_)
            clear hc
            refine lv_istore (lv' := [(4, .int r3), (0, .ref (a 0)), (1, .int p0), (2, .int p1), (3, .int p2)]) hx hb dX6_join_54 hl (by decide) rfl (fun ls hl => ?_)
            refine lv_aload_n hx hb dX6_join_56 rfl (lv_at hl 1 rfl) ?_
            refine va_get (D := D) (ci := 5) (v := .ref (a 5)) (C := RX6) (T := TX6) (N := 5) hx hb hts iw_X6_join_X6 hown hK hP 0 rfl rfl 2 (by decide) (hts (.fieldLink RX6 26 "PassedDuties" "parts" "LPassedDuties$Parts;") (by decide +kernel)) (fun _ h9 => h9) rfl dX6_join_57 ?_
            refine lv_iload_n hx hb dX6_join_60 rfl (lv_at hl 2 rfl) ?_
            refine lv_iload_n hx hb dX6_join_61 rfl (lv_at hl 3 rfl) ?_
            refine lv_iload_n hx hb dX6_join_62 rfl (lv_at hl 4 rfl) ?_
            obtain ⟨r4, hc, hf⟩ := jx_bs hf
            refine jx_kv (wr := [((a 0), .inr (5, [.ref (a 1), .ref (a 3), .ref (a 5), .ref (a 11), .ref (a 13)])), ((a 1), .inr (2, [.ref (a 2), .int pl])), ((a 2), .inl (cI, 24, .inl cd)), ((a 3), .inr (0, [.ref (a 4), .int bs])), ((a 4), .inl (cL, 8, .inr (.inl br))), ((a 11), .inr (4, [.ref (a 5), .ref (a 12)])), ((a 12), .inl (cI, 8, .inl jl)), ((a 13), .inr (1, [.ref (a 5), .ref (a 14), .ref (a 15), .int kf])), ((a 14), .inl (cL, 256, .inr (.inl bz))), ((a 15), .inl (cL, 8, .inr (.inl rw)))]) (ws2 := (wX a cI cL pl cd bs br un ow r4.1 r4.2.1 r4.2.2.1 tr tl r4.2.2.2 jl bz rw kf)) (jx_runV (As := [.int p0, .int p1, .int p2]) (rest := []) ⟨hx, hb, hml, hown, hts⟩ (c_X3_setKind l D a cI cL un ow ki th cm tr tl ch p0 p1 p2 r4 hc _) (cwV 3 hts gX6_join_X3_setKind rfl rfl rfl (by decide +kernel) ⟨Nat.le_of_ble_eq_true rfl, Nat.le_of_ble_eq_true rfl⟩) hK hN hP hD [5, 6, 7, 8, 9, 10] rfl (by decide) 5 3 rfl rfl rfl hl.1 rfl (Nat.le_of_ble_eq_true rfl) dX6_join_63 ⟨Nat.le_of_ble_eq_true rfl, Nat.le_of_ble_eq_true rfl⟩) hP hD hS hA [5, 6, 7, 8, 9, 10] [0, 1, 2, 3, 4, 11, 12, 13, 14, 15] [0, 1, 2, 3, 4, 10, 11, 12, 13, 14, 15, 5, 6, 7, 8, 9] rfl rfl (by decide) (by decide) rfl (by decide) (fun H locs hP hD hS => ?_)
            clear hc
            refine lv_iload hx hb dX6_join_66 (lv_at hl 0 rfl) ?_
            have he := jx_eq hf
            subst he
            exact jx_reti hx hb hr hlocks rfl hK hP hD hS dX6_join_68
          · replace hf := jx_neg hq hf
            refine lv_sipush (v := -1002) hx hb dX6_join_41 (by decide) ?_
            have he := jx_eq hf
            subst he
            exact jx_reti hx hb hr hlocks rfl hK hP hD hS dX6_join_44
      · replace hf := jx_negn hq hf
        refine lv_sipush (v := -1001) hx hb dX6_join_27 (by decide) ?_
        have he := jx_eq hf
        subst he
        exact jx_reti hx hb hr hlocks rfl hK hP hD hS dX6_join_30
theorem iw_X6_leave_X6 : ∀ w ∈ wsX60, w ∈ wsX6_leave := by decide +kernel
set_option maxHeartbeats 4000000 in
set_option maxRecDepth 100000 in
theorem c_X6_leave (l : Launch) (D : va_G) (a : Nat → Nat) (cI cL : ClassId) (pl : Int32) (cd : (Nat → Int32)) (bs : Int32) (br : (Nat → Int64)) (un : (Nat → Int32)) (ow : (Nat → Int64)) (ki : (Nat → Int32)) (th : (Nat → Int64)) (cm : (Nat → Int64)) (tr : Int32) (tl : Int32) (ch : Int32) (jl : (Nat → Int32)) (bz : (Nat → Int64)) (rw : (Nat → Int64)) (kf : Int32) (p0 : Int32) (res : (Int32 × (Nat → Int32) × (Nat → Int64) × (Nat → Int64) × Int32 × Int32 × Int32)) (hf : pf_X6_leave ow ki th cm tr tl ch p0 = some res) : jMi l yX6_leave wsX6_leave ({ frames := 4, cells := 0, slots := 0, locals := 95 }) D [(cI, .int), (cL, .long)] [.ref (a 0), .int p0] (wX a cI cL pl cd bs br un ow ki th cm tr tl ch jl bz rw kf) res.1 (wX a cI cL pl cd bs br un ow res.2.1 res.2.2.1 res.2.2.2.1 res.2.2.2.2.1 res.2.2.2.2.2.1 res.2.2.2.2.2.2 jl bz rw kf) := by
  intro sz
  refine Met.ofW (cc := cX6_leave) (maxL := 2) (ret := (some .int)) (by decide) rfl ?_
  intro p e s m args below meth c s₁ B hml hv
  obtain ⟨rfl, hsz, hP, hK, hD0, hN⟩ := hv
  have hx := B.exec
  have hb := B.bytes
  have hr := B.returns
  have hts := atoms_spec (ws := wsX6_leave) B.pre
  have hown : s.vm.findClass RX6 = some m.cls := findClass_of_methodNamed B.named
  have hlocks := B.notSynchronized
  subst hsz
  have hD := hD0.self (sz := s.heap.size)
  generalize hAe : va_A (wX a cI cL pl cd bs br un ow ki th cm tr tl ch jl bz rw kf) s.heap.size = A at hD ⊢
  have hA : ∀ q : Nat, s.heap.size ≤ q → A q := fun q h => by rw [← hAe]; exact Or.inr h
  have hS : va_S A s.heap s.heap [] := va_S.rf
  have hl := lv_entry ([.ref (a 0), .int p0]) (n := 2) (Nat.le_of_ble_eq_true rfl)
  rw [lg_entry_eq]
  generalize (lg_sl ([.ref (a 0), .int p0]) ++ List.replicate (2 - (lg_sl ([.ref (a 0), .int p0])).length) Slot.unset).toArray = ls at hl ⊢
  have hl : lv_has ls 2 [(0, .ref (a 0)), (1, .int p0)] := hl
  have hf : pf_X6_leave ow ki th cm tr tl ch p0 = some res := hf
  refine lv_aload_n hx hb dX6_leave_0 rfl (lv_at hl 0 rfl) ?_
  refine va_get (D := D) (ci := 5) (v := .ref (a 5)) (C := RX6) (T := TX6) (N := 5) hx hb hts iw_X6_leave_X6 hown hK hP 0 rfl rfl 2 (by decide) (hts (.fieldLink RX6 26 "PassedDuties" "parts" "LPassedDuties$Parts;") (by decide +kernel)) (fun _ h9 => h9) rfl dX6_leave_1 ?_
  refine lv_iload_n hx hb dX6_leave_4 rfl (lv_at hl 1 rfl) ?_
  obtain ⟨r1, hc, hf⟩ := jx_bs hf
  refine jx_ki (wr := [((a 0), .inr (5, [.ref (a 1), .ref (a 3), .ref (a 5), .ref (a 11), .ref (a 13)])), ((a 1), .inr (2, [.ref (a 2), .int pl])), ((a 2), .inl (cI, 24, .inl cd)), ((a 3), .inr (0, [.ref (a 4), .int bs])), ((a 4), .inl (cL, 8, .inr (.inl br))), ((a 11), .inr (4, [.ref (a 5), .ref (a 12)])), ((a 12), .inl (cI, 8, .inl jl)), ((a 13), .inr (1, [.ref (a 5), .ref (a 14), .ref (a 15), .int kf])), ((a 14), .inl (cL, 256, .inr (.inl bz))), ((a 15), .inl (cL, 8, .inr (.inl rw)))]) (ws2 := (wX a cI cL pl cd bs br un ow ki th cm tr tl ch jl bz rw kf)) (jx_runV (As := [.int p0]) (rest := []) ⟨hx, hb, hml, hown, hts⟩ (c_X3_has l D a cI cL un ow ki th cm tr tl ch p0 r1 hc _) (cwV 1 hts gX6_leave_X3_has rfl rfl rfl (by decide +kernel) ⟨Nat.le_of_ble_eq_true rfl, Nat.le_of_ble_eq_true rfl⟩) hK hN hP hD [5, 6, 7, 8, 9, 10] rfl (by decide) 5 3 rfl rfl rfl hl.1 rfl (Nat.le_of_ble_eq_true rfl) dX6_leave_5 ⟨Nat.le_of_ble_eq_true rfl, Nat.le_of_ble_eq_true rfl⟩) hP hD hS hA [5, 6, 7, 8, 9, 10] [0, 1, 2, 3, 4, 11, 12, 13, 14, 15] [0, 1, 2, 3, 4, 10, 11, 12, 13, 14, 15, 5, 6, 7, 8, 9] rfl rfl (by decide) (by decide) rfl (by decide) (fun H locs hP hD hS => ?_)
  clear hc
  refine lv_if_eq (tgt := 22) hx hb dX6_leave_8 (by decide) (fun hq => ?_) (fun hq => ?_)
  · replace hf := jx_pos hq hf
    refine lv_sipush (v := -1001) hx hb dX6_leave_22 (by decide) ?_
    have he := jx_eq hf
    subst he
    exact jx_reti hx hb hr hlocks rfl hK hP hD hS dX6_leave_25
  · replace hf := jx_neg hq hf
    refine lv_aload_n hx hb dX6_leave_11 rfl (lv_at hl 0 rfl) ?_
    refine va_get (D := D) (ci := 5) (v := .ref (a 5)) (C := RX6) (T := TX6) (N := 5) hx hb hts iw_X6_leave_X6 hown hK hP 0 rfl rfl 2 (by decide) (hts (.fieldLink RX6 26 "PassedDuties" "parts" "LPassedDuties$Parts;") (by decide +kernel)) (fun _ h9 => h9) rfl dX6_leave_12 ?_
    refine lv_iload_n hx hb dX6_leave_15 rfl (lv_at hl 1 rfl) ?_
    obtain ⟨r2, hc, hf⟩ := jx_bs hf
    refine jx_ki (wr := [((a 0), .inr (5, [.ref (a 1), .ref (a 3), .ref (a 5), .ref (a 11), .ref (a 13)])), ((a 1), .inr (2, [.ref (a 2), .int pl])), ((a 2), .inl (cI, 24, .inl cd)), ((a 3), .inr (0, [.ref (a 4), .int bs])), ((a 4), .inl (cL, 8, .inr (.inl br))), ((a 11), .inr (4, [.ref (a 5), .ref (a 12)])), ((a 12), .inl (cI, 8, .inl jl)), ((a 13), .inr (1, [.ref (a 5), .ref (a 14), .ref (a 15), .int kf])), ((a 14), .inl (cL, 256, .inr (.inl bz))), ((a 15), .inl (cL, 8, .inr (.inl rw)))]) (ws2 := (wX a cI cL pl cd bs br un ow r2.2.1 r2.2.2.1 r2.2.2.2.1 r2.2.2.2.2.1 r2.2.2.2.2.2.1 r2.2.2.2.2.2.2 jl bz rw kf)) (jx_runV (As := [.int p0]) (rest := []) ⟨hx, hb, hml, hown, hts⟩ (c_X3_remove l D a cI cL un ow ki th cm tr tl ch p0 r2 hc _) (cwV 1 hts gX6_leave_X3_remove rfl rfl rfl (by decide +kernel) ⟨Nat.le_of_ble_eq_true rfl, Nat.le_of_ble_eq_true rfl⟩) hK hN hP hD [5, 6, 7, 8, 9, 10] rfl (by decide) 5 3 rfl rfl rfl hl.1 rfl (Nat.le_of_ble_eq_true rfl) dX6_leave_16 ⟨Nat.le_of_ble_eq_true rfl, Nat.le_of_ble_eq_true rfl⟩) hP hD hS hA [5, 6, 7, 8, 9, 10] [0, 1, 2, 3, 4, 11, 12, 13, 14, 15] [0, 1, 2, 3, 4, 10, 11, 12, 13, 14, 15, 5, 6, 7, 8, 9] rfl rfl (by decide) (by decide) rfl (by decide) (fun H locs hP hD hS => ?_)
    clear hc
    refine lv_goto (tgt := 25) hx hb dX6_leave_19 (by decide) ?_
    have he := jx_eq hf
    subst he
    exact jx_reti hx hb hr hlocks rfl hK hP hD hS dX6_leave_25
theorem iw_X6_part_X0 : ∀ w ∈ wsX00, w ∈ wsX6_part := by decide +kernel
theorem iw_X6_part_X6 : ∀ w ∈ wsX60, w ∈ wsX6_part := by decide +kernel
set_option maxHeartbeats 4000000 in
set_option maxRecDepth 100000 in
theorem c_X6_part (l : Launch) (D : va_G) (a : Nat → Nat) (cI cL : ClassId) (pl : Int32) (cd : (Nat → Int32)) (bs : Int32) (br : (Nat → Int64)) (un : (Nat → Int32)) (ow : (Nat → Int64)) (ki : (Nat → Int32)) (th : (Nat → Int64)) (cm : (Nat → Int64)) (tr : Int32) (tl : Int32) (ch : Int32) (jl : (Nat → Int32)) (bz : (Nat → Int64)) (rw : (Nat → Int64)) (kf : Int32) (p0 : Int32) (res : (Int32 × (Nat → Int32) × (Nat → Int64) × (Nat → Int64) × Int32 × Int32)) (hf : pf_X6_part bs br un ow th cm tr ch p0 = some res) : jMi l yX6_part wsX6_part ({ frames := 4, cells := 0, slots := 0, locals := 96 }) D [(cI, .int), (cL, .long)] [.ref (a 0), .int p0] (wX a cI cL pl cd bs br un ow ki th cm tr tl ch jl bz rw kf) res.1 (wX a cI cL pl cd bs br res.2.1 res.2.2.1 ki th res.2.2.2.1 res.2.2.2.2.1 tl res.2.2.2.2.2 jl bz rw kf) := by
  intro sz
  refine Met.ofW (cc := cX6_part) (maxL := 3) (ret := (some .int)) (by decide) rfl ?_
  intro p e s m args below meth c s₁ B hml hv
  obtain ⟨rfl, hsz, hP, hK, hD0, hN⟩ := hv
  have hx := B.exec
  have hb := B.bytes
  have hr := B.returns
  have hts := atoms_spec (ws := wsX6_part) B.pre
  have hown : s.vm.findClass RX6 = some m.cls := findClass_of_methodNamed B.named
  have hlocks := B.notSynchronized
  subst hsz
  have hD := hD0.self (sz := s.heap.size)
  generalize hAe : va_A (wX a cI cL pl cd bs br un ow ki th cm tr tl ch jl bz rw kf) s.heap.size = A at hD ⊢
  have hA : ∀ q : Nat, s.heap.size ≤ q → A q := fun q h => by rw [← hAe]; exact Or.inr h
  have hS : va_S A s.heap s.heap [] := va_S.rf
  have hl := lv_entry ([.ref (a 0), .int p0]) (n := 3) (Nat.le_of_ble_eq_true rfl)
  rw [lg_entry_eq]
  generalize (lg_sl ([.ref (a 0), .int p0]) ++ List.replicate (3 - (lg_sl ([.ref (a 0), .int p0])).length) Slot.unset).toArray = ls at hl ⊢
  have hl : lv_has ls 3 [(0, .ref (a 0)), (1, .int p0)] := hl
  have hf : pf_X6_part bs br un ow th cm tr ch p0 = some res := hf
  refine lv_aload_n hx hb dX6_part_0 rfl (lv_at hl 0 rfl) ?_
  refine va_get (D := D) (ci := 5) (v := .ref (a 3)) (C := RX6) (T := TX6) (N := 5) hx hb hts iw_X6_part_X6 hown hK hP 0 rfl rfl 1 (by decide) (hts (.fieldLink RX6 19 "PassedDuties" "book" "LPassedDuties$Book;") (by decide +kernel)) (fun _ h9 => h9) rfl dX6_part_1 ?_
  refine lv_iload_n hx hb dX6_part_4 rfl (lv_at hl 1 rfl) ?_
  obtain ⟨r1, hc, hf⟩ := jx_bs hf
  refine jx_ki (wr := [((a 0), .inr (5, [.ref (a 1), .ref (a 3), .ref (a 5), .ref (a 11), .ref (a 13)])), ((a 1), .inr (2, [.ref (a 2), .int pl])), ((a 2), .inl (cI, 24, .inl cd)), ((a 5), .inr (3, [.ref (a 6), .ref (a 7), .ref (a 8), .ref (a 9), .ref (a 10), .int tr, .int tl, .int ch])), ((a 6), .inl (cI, 8, .inl un)), ((a 7), .inl (cL, 8, .inr (.inl ow))), ((a 8), .inl (cI, 64, .inl ki)), ((a 9), .inl (cL, 64, .inr (.inl th))), ((a 10), .inl (cL, 8, .inr (.inl cm))), ((a 11), .inr (4, [.ref (a 5), .ref (a 12)])), ((a 12), .inl (cI, 8, .inl jl)), ((a 13), .inr (1, [.ref (a 5), .ref (a 14), .ref (a 15), .int kf])), ((a 14), .inl (cL, 256, .inr (.inl bz))), ((a 15), .inl (cL, 8, .inr (.inl rw)))]) (ws2 := (wX a cI cL pl cd bs br un ow ki th cm tr tl ch jl bz rw kf)) (jx_runV (As := [.int p0]) (rest := []) ⟨hx, hb, hml, hown, hts⟩ (c_X0_has l D a cI cL bs br p0 r1 hc _) (cwV 1 hts gX6_part_X0_has rfl rfl rfl (by decide +kernel) ⟨Nat.le_of_ble_eq_true rfl, Nat.le_of_ble_eq_true rfl⟩) hK hN hP hD [3, 4] rfl (by decide) 3 0 rfl rfl rfl hl.1 rfl (Nat.le_of_ble_eq_true rfl) dX6_part_5 ⟨Nat.le_of_ble_eq_true rfl, Nat.le_of_ble_eq_true rfl⟩) hP hD hS hA [3, 4] [0, 1, 2, 5, 6, 7, 8, 9, 10, 11, 12, 13, 14, 15] [0, 1, 2, 14, 15, 3, 4, 5, 6, 7, 8, 9, 10, 11, 12, 13] rfl rfl (by decide) (by decide) rfl (by decide) (fun H locs hP hD hS => ?_)
  clear hc
  refine lv_if_ne (tgt := 15) hx hb dX6_part_8 (by decide) (fun hq => ?_) (fun hq => ?_)
  · replace hf := jx_pos hq hf
    refine lv_aload_n hx hb dX6_part_15 rfl (lv_at hl 0 rfl) ?_
    refine va_get (D := D) (ci := 5) (v := .ref (a 5)) (C := RX6) (T := TX6) (N := 5) hx hb hts iw_X6_part_X6 hown hK hP 0 rfl rfl 2 (by decide) (hts (.fieldLink RX6 26 "PassedDuties" "parts" "LPassedDuties$Parts;") (by decide +kernel)) (fun _ h9 => h9) rfl dX6_part_16 ?_
    obtain ⟨r2, hc, hf⟩ := jx_bs hf
    refine jx_ki (wr := [((a 0), .inr (5, [.ref (a 1), .ref (a 3), .ref (a 5), .ref (a 11), .ref (a 13)])), ((a 1), .inr (2, [.ref (a 2), .int pl])), ((a 2), .inl (cI, 24, .inl cd)), ((a 3), .inr (0, [.ref (a 4), .int bs])), ((a 4), .inl (cL, 8, .inr (.inl br))), ((a 11), .inr (4, [.ref (a 5), .ref (a 12)])), ((a 12), .inl (cI, 8, .inl jl)), ((a 13), .inr (1, [.ref (a 5), .ref (a 14), .ref (a 15), .int kf])), ((a 14), .inl (cL, 256, .inr (.inl bz))), ((a 15), .inl (cL, 8, .inr (.inl rw)))]) (ws2 := (wX a cI cL pl cd bs br un ow ki th cm tr tl ch jl bz rw kf)) (jx_runV (As := []) (rest := []) ⟨hx, hb, hml, hown, hts⟩ (c_X3_leastFree l D a cI cL un ow ki th cm tr tl ch r2 hc _) (cwV 0 hts gX6_part_X3_leastFree rfl rfl rfl (by decide +kernel) ⟨Nat.le_of_ble_eq_true rfl, Nat.le_of_ble_eq_true rfl⟩) hK hN hP hD [5, 6, 7, 8, 9, 10] rfl (by decide) 5 3 rfl rfl rfl hl.1 rfl (Nat.le_of_ble_eq_true rfl) dX6_part_19 ⟨Nat.le_of_ble_eq_true rfl, Nat.le_of_ble_eq_true rfl⟩) hP hD hS hA [5, 6, 7, 8, 9, 10] [0, 1, 2, 3, 4, 11, 12, 13, 14, 15] [0, 1, 2, 3, 4, 10, 11, 12, 13, 14, 15, 5, 6, 7, 8, 9] rfl rfl (by decide) (by decide) rfl (by decide) (fun H locs hP hD hS => ?_)
    clear hc
    refine lv_istore_n (lv' := [(2, .int r2), (0, .ref (a 0)), (1, .int p0)]) hx hb dX6_part_22 rfl hl (by decide) rfl (fun ls hl => ?_)
    refine lv_iload_n hx hb dX6_part_23 rfl (lv_at hl 0 rfl) ?_
    refine lv_iconst (v := -1) hx hb dX6_part_24 (by decide) ?_
    refine lv_icmp_ne (tgt := 32) hx hb dX6_part_25 (by decide) (fun hq => ?_) (fun hq => ?_)
    · replace hf := jx_pos hq hf
      refine lv_aload_n hx hb dX6_part_32 rfl (lv_at hl 1 rfl) ?_
      refine va_get (D := D) (ci := 5) (v := .ref (a 5)) (C := RX6) (T := TX6) (N := 5) hx hb hts iw_X6_part_X6 hown hK hP 0 rfl rfl 2 (by decide) (hts (.fieldLink RX6 26 "PassedDuties" "parts" "LPassedDuties$Parts;") (by decide +kernel)) (fun _ h9 => h9) rfl dX6_part_33 ?_
      refine lv_iload_n hx hb dX6_part_36 rfl (lv_at hl 0 rfl) ?_
      refine lv_iload_n hx hb dX6_part_37 rfl (lv_at hl 2 rfl) ?_
      refine lv_aload_n hx hb dX6_part_38 rfl (lv_at hl 1 rfl) ?_
      refine va_get (D := D) (ci := 5) (v := .ref (a 3)) (C := RX6) (T := TX6) (N := 5) hx hb hts iw_X6_part_X6 hown hK hP 0 rfl rfl 1 (by decide) (hts (.fieldLink RX6 19 "PassedDuties" "book" "LPassedDuties$Book;") (by decide +kernel)) (fun _ h9 => h9) rfl dX6_part_39 ?_
      refine va_getN (D := D) (ci := 0) (v := .ref (a 4)) (C := RX0) (T := TX0) (N := 2) hx hb hts iw_X6_part_X0 hown hK hP 3 rfl rfl 0 (by decide) (va_Nw.use rfl (hN (.fieldLinkNest "PassedDuties" 76 "PassedDuties$Book" "rows" "[J" "PassedDuties") (by decide +kernel))) (fun _ h9 => h9) rfl dX6_part_42 ?_
      refine lv_iload_n hx hb dX6_part_45 rfl (lv_at hl 2 rfl) ?_
      obtain ⟨hi, hf⟩ := jx_gs hf
      refine va_lald hx hb hK hP 4 1 rfl rfl (jx_ip hi) dX6_part_46 ?_
      clear hi
      obtain ⟨r3, hc, hf⟩ := jx_bs hf
      refine jx_kv (wr := [((a 0), .inr (5, [.ref (a 1), .ref (a 3), .ref (a 5), .ref (a 11), .ref (a 13)])), ((a 1), .inr (2, [.ref (a 2), .int pl])), ((a 2), .inl (cI, 24, .inl cd)), ((a 3), .inr (0, [.ref (a 4), .int bs])), ((a 4), .inl (cL, 8, .inr (.inl br))), ((a 11), .inr (4, [.ref (a 5), .ref (a 12)])), ((a 12), .inl (cI, 8, .inl jl)), ((a 13), .inr (1, [.ref (a 5), .ref (a 14), .ref (a 15), .int kf])), ((a 14), .inl (cL, 256, .inr (.inl bz))), ((a 15), .inl (cL, 8, .inr (.inl rw)))]) (ws2 := (wX a cI cL pl cd bs br r3.1 r3.2.1 ki th r3.2.2.1 r3.2.2.2.1 tl r3.2.2.2.2 jl bz rw kf)) (jx_runV (As := [.int r2, .int p0, .long (br (p0).toNatClampNeg)]) (rest := []) ⟨hx, hb, hml, hown, hts⟩ (c_X3_put l D a cI cL un ow ki th cm tr tl ch r2 p0 (br (p0).toNatClampNeg) r3 hc _) (cwV 3 hts gX6_part_X3_put rfl rfl rfl (by decide +kernel) ⟨Nat.le_of_ble_eq_true rfl, Nat.le_of_ble_eq_true rfl⟩) hK hN hP hD [5, 6, 7, 8, 9, 10] rfl (by decide) 5 3 rfl rfl rfl hl.1 rfl (Nat.le_of_ble_eq_true rfl) dX6_part_47 ⟨Nat.le_of_ble_eq_true rfl, Nat.le_of_ble_eq_true rfl⟩) hP hD hS hA [5, 6, 7, 8, 9, 10] [0, 1, 2, 3, 4, 11, 12, 13, 14, 15] [0, 1, 2, 3, 4, 10, 11, 12, 13, 14, 15, 5, 6, 7, 8, 9] rfl rfl (by decide) (by decide) rfl (by decide) (fun H locs hP hD hS => ?_)
      clear hc
      refine lv_iload_n hx hb dX6_part_50 rfl (lv_at hl 0 rfl) ?_
      have he := jx_eq hf
      subst he
      exact jx_reti hx hb hr hlocks rfl hK hP hD hS dX6_part_51
    · replace hf := jx_negn hq hf
      refine lv_sipush (v := -1004) hx hb dX6_part_28 (by decide) ?_
      have he := jx_eq hf
      subst he
      exact jx_reti hx hb hr hlocks rfl hK hP hD hS dX6_part_31
  · replace hf := jx_negn hq hf
    refine lv_sipush (v := -1001) hx hb dX6_part_11 (by decide) ?_
    have he := jx_eq hf
    subst he
    exact jx_reti hx hb hr hlocks rfl hK hP hD hS dX6_part_14
theorem iw_X6_terms_X2 : ∀ w ∈ wsX20, w ∈ wsX6_terms := by decide +kernel
theorem iw_X6_terms_X6 : ∀ w ∈ wsX60, w ∈ wsX6_terms := by decide +kernel
set_option maxHeartbeats 4000000 in
set_option maxRecDepth 100000 in
theorem c_X6_terms (l : Launch) (D : va_G) (a : Nat → Nat) (cI cL : ClassId) (pl : Int32) (cd : (Nat → Int32)) (bs : Int32) (br : (Nat → Int64)) (un : (Nat → Int32)) (ow : (Nat → Int64)) (ki : (Nat → Int32)) (th : (Nat → Int64)) (cm : (Nat → Int64)) (tr : Int32) (tl : Int32) (ch : Int32) (jl : (Nat → Int32)) (bz : (Nat → Int64)) (rw : (Nat → Int64)) (kf : Int32) (res : (Int32 × Int32 × Int32 × (Nat → Int64))) (hf : pf_X6_terms pl cd bs br = some res) : jMi l yX6_terms wsX6_terms ({ frames := 2, cells := 0, slots := 0, locals := 49 }) D [(cI, .int), (cL, .long)] [.ref (a 0)] (wX a cI cL pl cd bs br un ow ki th cm tr tl ch jl bz rw kf) res.1 (wX a cI cL res.2.1 cd res.2.2.1 res.2.2.2 un ow ki th cm tr tl ch jl bz rw kf) := by
  intro sz
  refine Met.ofW (cc := cX6_terms) (maxL := 2) (ret := (some .int)) (by decide) rfl ?_
  intro p e s m args below meth c s₁ B hml hv
  obtain ⟨rfl, hsz, hP, hK, hD0, hN⟩ := hv
  have hx := B.exec
  have hb := B.bytes
  have hr := B.returns
  have hts := atoms_spec (ws := wsX6_terms) B.pre
  have hown : s.vm.findClass RX6 = some m.cls := findClass_of_methodNamed B.named
  have hlocks := B.notSynchronized
  subst hsz
  have hD := hD0.self (sz := s.heap.size)
  generalize hAe : va_A (wX a cI cL pl cd bs br un ow ki th cm tr tl ch jl bz rw kf) s.heap.size = A at hD ⊢
  have hA : ∀ q : Nat, s.heap.size ≤ q → A q := fun q h => by rw [← hAe]; exact Or.inr h
  have hS : va_S A s.heap s.heap [] := va_S.rf
  have hl := lv_entry ([.ref (a 0)]) (n := 2) (Nat.le_of_ble_eq_true rfl)
  rw [lg_entry_eq]
  generalize (lg_sl ([.ref (a 0)]) ++ List.replicate (2 - (lg_sl ([.ref (a 0)])).length) Slot.unset).toArray = ls at hl ⊢
  have hl : lv_has ls 2 [(0, .ref (a 0))] := hl
  have hf : pf_X6_terms pl cd bs br = some res := hf
  refine lv_aload_n hx hb dX6_terms_0 rfl (lv_at hl 0 rfl) ?_
  refine va_get (D := D) (ci := 5) (v := .ref (a 1)) (C := RX6) (T := TX6) (N := 5) hx hb hts iw_X6_terms_X6 hown hK hP 0 rfl rfl 0 (by decide) (hts (.fieldLink RX6 12 "PassedDuties" "page" "LPassedDuties$Page;") (by decide +kernel)) (fun _ h9 => h9) rfl dX6_terms_1 ?_
  refine va_getN (D := D) (ci := 2) (v := .int pl) (C := RX2) (T := TX2) (N := 2) hx hb hts iw_X6_terms_X2 hown hK hP 1 rfl rfl 1 (by decide) (va_Nw.use rfl (hN (.fieldLinkNest "PassedDuties" 46 "PassedDuties$Page" "length" "I" "PassedDuties") (by decide +kernel))) (fun _ h9 => h9) rfl dX6_terms_4 ?_
  refine lv_if_eq (tgt := 27) hx hb dX6_terms_7 (by decide) (fun hq => ?_) (fun hq => ?_)
  · replace hf := jx_pos hq hf
    refine lv_sipush (v := -1003) hx hb dX6_terms_27 (by decide) ?_
    have he := jx_eq hf
    subst he
    exact jx_reti hx hb hr hlocks rfl hK hP hD hS dX6_terms_30
  · replace hf := jx_neg hq hf
    refine lv_aload_n hx hb dX6_terms_10 rfl (lv_at hl 0 rfl) ?_
    refine va_get (D := D) (ci := 5) (v := .ref (a 1)) (C := RX6) (T := TX6) (N := 5) hx hb hts iw_X6_terms_X6 hown hK hP 0 rfl rfl 0 (by decide) (hts (.fieldLink RX6 12 "PassedDuties" "page" "LPassedDuties$Page;") (by decide +kernel)) (fun _ h9 => h9) rfl dX6_terms_11 ?_
    obtain ⟨r1, hc, hf⟩ := jx_bs hf
    refine jx_ki (wr := [((a 0), .inr (5, [.ref (a 1), .ref (a 3), .ref (a 5), .ref (a 11), .ref (a 13)])), ((a 3), .inr (0, [.ref (a 4), .int bs])), ((a 4), .inl (cL, 8, .inr (.inl br))), ((a 5), .inr (3, [.ref (a 6), .ref (a 7), .ref (a 8), .ref (a 9), .ref (a 10), .int tr, .int tl, .int ch])), ((a 6), .inl (cI, 8, .inl un)), ((a 7), .inl (cL, 8, .inr (.inl ow))), ((a 8), .inl (cI, 64, .inl ki)), ((a 9), .inl (cL, 64, .inr (.inl th))), ((a 10), .inl (cL, 8, .inr (.inl cm))), ((a 11), .inr (4, [.ref (a 5), .ref (a 12)])), ((a 12), .inl (cI, 8, .inl jl)), ((a 13), .inr (1, [.ref (a 5), .ref (a 14), .ref (a 15), .int kf])), ((a 14), .inl (cL, 256, .inr (.inl bz))), ((a 15), .inl (cL, 8, .inr (.inl rw)))]) (ws2 := (wX a cI cL pl cd bs br un ow ki th cm tr tl ch jl bz rw kf)) (jx_runV (As := []) (rest := []) ⟨hx, hb, hml, hown, hts⟩ (c_X2_firstFault l D a cI cL pl cd r1 hc _) (cwV 0 hts gX6_terms_X2_firstFault rfl rfl rfl (by decide +kernel) ⟨Nat.le_of_ble_eq_true rfl, Nat.le_of_ble_eq_true rfl⟩) hK hN hP hD [1, 2] rfl (by decide) 1 2 rfl rfl rfl hl.1 rfl (Nat.le_of_ble_eq_true rfl) dX6_terms_14 ⟨Nat.le_of_ble_eq_true rfl, Nat.le_of_ble_eq_true rfl⟩) hP hD hS hA [1, 2] [0, 3, 4, 5, 6, 7, 8, 9, 10, 11, 12, 13, 14, 15] [0, 14, 15, 1, 2, 3, 4, 5, 6, 7, 8, 9, 10, 11, 12, 13] rfl rfl (by decide) (by decide) rfl (by decide) (fun H locs hP hD hS => ?_)
    clear hc
    refine lv_aload_n hx hb dX6_terms_17 rfl (lv_at hl 0 rfl) ?_
    refine va_get (D := D) (ci := 5) (v := .ref (a 1)) (C := RX6) (T := TX6) (N := 5) hx hb hts iw_X6_terms_X6 hown hK hP 0 rfl rfl 0 (by decide) (hts (.fieldLink RX6 12 "PassedDuties" "page" "LPassedDuties$Page;") (by decide +kernel)) (fun _ h9 => h9) rfl dX6_terms_18 ?_
    refine va_getN (D := D) (ci := 2) (v := .int pl) (C := RX2) (T := TX2) (N := 2) hx hb hts iw_X6_terms_X2 hown hK hP 1 rfl rfl 1 (by decide) (va_Nw.use rfl (hN (.fieldLinkNest "PassedDuties" 46 "PassedDuties$Page" "length" "I" "PassedDuties") (by decide +kernel))) (fun _ h9 => h9) rfl dX6_terms_21 ?_
    refine lv_icmp_ge (tgt := 31) hx hb dX6_terms_24 (by decide) (fun hq => ?_) (fun hq => ?_)
    · replace hf := jx_pos hq hf
      refine lv_aload_n hx hb dX6_terms_31 rfl (lv_at hl 0 rfl) ?_
      refine va_get (D := D) (ci := 5) (v := .ref (a 3)) (C := RX6) (T := TX6) (N := 5) hx hb hts iw_X6_terms_X6 hown hK hP 0 rfl rfl 1 (by decide) (hts (.fieldLink RX6 19 "PassedDuties" "book" "LPassedDuties$Book;") (by decide +kernel)) (fun _ h9 => h9) rfl dX6_terms_32 ?_
      refine lv_aload_n hx hb dX6_terms_35 rfl (lv_at hl 0 rfl) ?_
      refine va_get (D := D) (ci := 5) (v := .ref (a 1)) (C := RX6) (T := TX6) (N := 5) hx hb hts iw_X6_terms_X6 hown hK hP 0 rfl rfl 0 (by decide) (hts (.fieldLink RX6 12 "PassedDuties" "page" "LPassedDuties$Page;") (by decide +kernel)) (fun _ h9 => h9) rfl dX6_terms_36 ?_
      obtain ⟨r2, hc, hf⟩ := jx_bs hf
      refine jx_kl (wr := [((a 0), .inr (5, [.ref (a 1), .ref (a 3), .ref (a 5), .ref (a 11), .ref (a 13)])), ((a 3), .inr (0, [.ref (a 4), .int bs])), ((a 4), .inl (cL, 8, .inr (.inl br))), ((a 5), .inr (3, [.ref (a 6), .ref (a 7), .ref (a 8), .ref (a 9), .ref (a 10), .int tr, .int tl, .int ch])), ((a 6), .inl (cI, 8, .inl un)), ((a 7), .inl (cL, 8, .inr (.inl ow))), ((a 8), .inl (cI, 64, .inl ki)), ((a 9), .inl (cL, 64, .inr (.inl th))), ((a 10), .inl (cL, 8, .inr (.inl cm))), ((a 11), .inr (4, [.ref (a 5), .ref (a 12)])), ((a 12), .inl (cI, 8, .inl jl)), ((a 13), .inr (1, [.ref (a 5), .ref (a 14), .ref (a 15), .int kf])), ((a 14), .inl (cL, 256, .inr (.inl bz))), ((a 15), .inl (cL, 8, .inr (.inl rw)))]) (ws2 := (wX a cI cL pl cd bs br un ow ki th cm tr tl ch jl bz rw kf)) (jx_runV (As := []) (rest := [.ref (a 3)]) ⟨hx, hb, hml, hown, hts⟩ (c_X2_meaning l D a cI cL pl cd r2 hc _) (cwV 0 hts gX6_terms_X2_meaning rfl rfl rfl (by decide +kernel) ⟨Nat.le_of_ble_eq_true rfl, Nat.le_of_ble_eq_true rfl⟩) hK hN hP hD [1, 2] rfl (by decide) 1 2 rfl rfl rfl hl.1 rfl (Nat.le_of_ble_eq_true rfl) dX6_terms_39 ⟨Nat.le_of_ble_eq_true rfl, Nat.le_of_ble_eq_true rfl⟩) hP hD hS hA [1, 2] [0, 3, 4, 5, 6, 7, 8, 9, 10, 11, 12, 13, 14, 15] [0, 14, 15, 1, 2, 3, 4, 5, 6, 7, 8, 9, 10, 11, 12, 13] rfl rfl (by decide) (by decide) rfl (by decide) (fun H locs hP hD hS => ?_)
      clear hc
      obtain ⟨r3, hc, hf⟩ := jx_bs hf
      refine jx_ki (wr := [((a 0), .inr (5, [.ref (a 1), .ref (a 3), .ref (a 5), .ref (a 11), .ref (a 13)])), ((a 1), .inr (2, [.ref (a 2), .int pl])), ((a 2), .inl (cI, 24, .inl cd)), ((a 5), .inr (3, [.ref (a 6), .ref (a 7), .ref (a 8), .ref (a 9), .ref (a 10), .int tr, .int tl, .int ch])), ((a 6), .inl (cI, 8, .inl un)), ((a 7), .inl (cL, 8, .inr (.inl ow))), ((a 8), .inl (cI, 64, .inl ki)), ((a 9), .inl (cL, 64, .inr (.inl th))), ((a 10), .inl (cL, 8, .inr (.inl cm))), ((a 11), .inr (4, [.ref (a 5), .ref (a 12)])), ((a 12), .inl (cI, 8, .inl jl)), ((a 13), .inr (1, [.ref (a 5), .ref (a 14), .ref (a 15), .int kf])), ((a 14), .inl (cL, 256, .inr (.inl bz))), ((a 15), .inl (cL, 8, .inr (.inl rw)))]) (ws2 := (wX a cI cL pl cd r3.2.1 r3.2.2 un ow ki th cm tr tl ch jl bz rw kf)) (jx_runV (As := [.long r2]) (rest := []) ⟨hx, hb, hml, hown, hts⟩ (c_X0_numberFor l D a cI cL bs br r2 r3 hc _) (cwV 1 hts gX6_terms_X0_numberFor rfl rfl rfl (by decide +kernel) ⟨Nat.le_of_ble_eq_true rfl, Nat.le_of_ble_eq_true rfl⟩) hK hN hP hD [3, 4] rfl (by decide) 3 0 rfl rfl rfl hl.1 rfl (Nat.le_of_ble_eq_true rfl) dX6_terms_42 ⟨Nat.le_of_ble_eq_true rfl, Nat.le_of_ble_eq_true rfl⟩) hP hD hS hA [3, 4] [0, 1, 2, 5, 6, 7, 8, 9, 10, 11, 12, 13, 14, 15] [0, 1, 2, 14, 15, 3, 4, 5, 6, 7, 8, 9, 10, 11, 12, 13] rfl rfl (by decide) (by decide) rfl (by decide) (fun H locs hP hD hS => ?_)
      clear hc
      refine lv_istore_n (lv' := [(1, .int r3.1), (0, .ref (a 0))]) hx hb dX6_terms_45 rfl hl (by decide) rfl (fun ls hl => ?_)
      refine lv_iload_n hx hb dX6_terms_46 rfl (lv_at hl 0 rfl) ?_
      refine lv_iconst (v := -1) hx hb dX6_terms_47 (by decide) ?_
      refine lv_icmp_ne (tgt := 55) hx hb dX6_terms_48 (by decide) (fun hq => ?_) (fun hq => ?_)
      · replace hf := jx_pos hq hf
        refine lv_aload_n hx hb dX6_terms_55 rfl (lv_at hl 1 rfl) ?_
        refine va_get (D := D) (ci := 5) (v := .ref (a 1)) (C := RX6) (T := TX6) (N := 5) hx hb hts iw_X6_terms_X6 hown hK hP 0 rfl rfl 0 (by decide) (hts (.fieldLink RX6 12 "PassedDuties" "page" "LPassedDuties$Page;") (by decide +kernel)) (fun _ h9 => h9) rfl dX6_terms_56 ?_
        obtain ⟨r4, hc, hf⟩ := jx_bs hf
        refine jx_ki (wr := [((a 0), .inr (5, [.ref (a 1), .ref (a 3), .ref (a 5), .ref (a 11), .ref (a 13)])), ((a 3), .inr (0, [.ref (a 4), .int r3.2.1])), ((a 4), .inl (cL, 8, .inr (.inl r3.2.2))), ((a 5), .inr (3, [.ref (a 6), .ref (a 7), .ref (a 8), .ref (a 9), .ref (a 10), .int tr, .int tl, .int ch])), ((a 6), .inl (cI, 8, .inl un)), ((a 7), .inl (cL, 8, .inr (.inl ow))), ((a 8), .inl (cI, 64, .inl ki)), ((a 9), .inl (cL, 64, .inr (.inl th))), ((a 10), .inl (cL, 8, .inr (.inl cm))), ((a 11), .inr (4, [.ref (a 5), .ref (a 12)])), ((a 12), .inl (cI, 8, .inl jl)), ((a 13), .inr (1, [.ref (a 5), .ref (a 14), .ref (a 15), .int kf])), ((a 14), .inl (cL, 256, .inr (.inl bz))), ((a 15), .inl (cL, 8, .inr (.inl rw)))]) (ws2 := (wX a cI cL r4.2 cd r3.2.1 r3.2.2 un ow ki th cm tr tl ch jl bz rw kf)) (jx_runV (As := []) (rest := []) ⟨hx, hb, hml, hown, hts⟩ (c_X2_wipe l D a cI cL pl cd r4 hc _) (cwV 0 hts gX6_terms_X2_wipe rfl rfl rfl (by decide +kernel) ⟨Nat.le_of_ble_eq_true rfl, Nat.le_of_ble_eq_true rfl⟩) hK hN hP hD [1, 2] rfl (by decide) 1 2 rfl rfl rfl hl.1 rfl (Nat.le_of_ble_eq_true rfl) dX6_terms_59 ⟨Nat.le_of_ble_eq_true rfl, Nat.le_of_ble_eq_true rfl⟩) hP hD hS hA [1, 2] [0, 3, 4, 5, 6, 7, 8, 9, 10, 11, 12, 13, 14, 15] [0, 14, 15, 1, 2, 3, 4, 5, 6, 7, 8, 9, 10, 11, 12, 13] rfl rfl (by decide) (by decide) rfl (by decide) (fun H locs hP hD hS => ?_)
        clear hc
        refine lv_pop hx hb dX6_terms_62 rfl ?_
        refine lv_iload_n hx hb dX6_terms_63 rfl (lv_at hl 0 rfl) ?_
        have he := jx_eq hf
        subst he
        exact jx_reti hx hb hr hlocks rfl hK hP hD hS dX6_terms_64
      · replace hf := jx_negn hq hf
        refine lv_sipush (v := -1004) hx hb dX6_terms_51 (by decide) ?_
        have he := jx_eq hf
        subst he
        exact jx_reti hx hb hr hlocks rfl hK hP hD hS dX6_terms_54
    · replace hf := jx_neg hq hf
      refine lv_sipush (v := -1003) hx hb dX6_terms_27 (by decide) ?_
      have he := jx_eq hf
      subst he
      exact jx_reti hx hb hr hlocks rfl hK hP hD hS dX6_terms_30
theorem iw_X6_two_X0 : ∀ w ∈ wsX00, w ∈ wsX6_two := by decide +kernel
theorem iw_X6_two_X6 : ∀ w ∈ wsX60, w ∈ wsX6_two := by decide +kernel
set_option maxHeartbeats 4000000 in
set_option maxRecDepth 100000 in
theorem c_X6_two (l : Launch) (D : va_G) (a : Nat → Nat) (cI cL : ClassId) (pl : Int32) (cd : (Nat → Int32)) (bs : Int32) (br : (Nat → Int64)) (un : (Nat → Int32)) (ow : (Nat → Int64)) (ki : (Nat → Int32)) (th : (Nat → Int64)) (cm : (Nat → Int64)) (tr : Int32) (tl : Int32) (ch : Int32) (jl : (Nat → Int32)) (bz : (Nat → Int64)) (rw : (Nat → Int64)) (kf : Int32) (p0 : Int32) (p1 : Int32) (p2 : Int32) (res : Int32) (hf : pf_X6_two bs br p0 p1 p2 = some res) : jMi l yX6_two wsX6_two ({ frames := 1, cells := 0, slots := 0, locals := 25 }) D [(cI, .int), (cL, .long)] [.ref (a 0), .int p0, .int p1, .int p2] (wX a cI cL pl cd bs br un ow ki th cm tr tl ch jl bz rw kf) res (wX a cI cL pl cd bs br un ow ki th cm tr tl ch jl bz rw kf) := by
  intro sz
  refine Met.ofW (cc := cX6_two) (maxL := 8) (ret := (some .int)) (by decide) rfl ?_
  intro p e s m args below meth c s₁ B hml hv
  obtain ⟨rfl, hsz, hP, hK, hD0, hN⟩ := hv
  have hx := B.exec
  have hb := B.bytes
  have hr := B.returns
  have hts := atoms_spec (ws := wsX6_two) B.pre
  have hown : s.vm.findClass RX6 = some m.cls := findClass_of_methodNamed B.named
  have hlocks := B.notSynchronized
  subst hsz
  have hD := hD0.self (sz := s.heap.size)
  generalize hAe : va_A (wX a cI cL pl cd bs br un ow ki th cm tr tl ch jl bz rw kf) s.heap.size = A at hD ⊢
  have hA : ∀ q : Nat, s.heap.size ≤ q → A q := fun q h => by rw [← hAe]; exact Or.inr h
  have hS : va_S A s.heap s.heap [] := va_S.rf
  have hl := lv_entry ([.ref (a 0), .int p0, .int p1, .int p2]) (n := 8) (Nat.le_of_ble_eq_true rfl)
  rw [lg_entry_eq]
  generalize (lg_sl ([.ref (a 0), .int p0, .int p1, .int p2]) ++ List.replicate (8 - (lg_sl ([.ref (a 0), .int p0, .int p1, .int p2])).length) Slot.unset).toArray = ls at hl ⊢
  have hl : lv_has ls 8 [(0, .ref (a 0)), (1, .int p0), (2, .int p1), (3, .int p2)] := hl
  have hf : pf_X6_two bs br p0 p1 p2 = some res := hf
  refine lv_aload_n hx hb dX6_two_0 rfl (lv_at hl 0 rfl) ?_
  refine va_get (D := D) (ci := 5) (v := .ref (a 3)) (C := RX6) (T := TX6) (N := 5) hx hb hts iw_X6_two_X6 hown hK hP 0 rfl rfl 1 (by decide) (hts (.fieldLink RX6 19 "PassedDuties" "book" "LPassedDuties$Book;") (by decide +kernel)) (fun _ h9 => h9) rfl dX6_two_1 ?_
  refine lv_iload_n hx hb dX6_two_4 rfl (lv_at hl 1 rfl) ?_
  obtain ⟨r1, hc, hf⟩ := jx_bs hf
  refine jx_ki (wr := [((a 0), .inr (5, [.ref (a 1), .ref (a 3), .ref (a 5), .ref (a 11), .ref (a 13)])), ((a 1), .inr (2, [.ref (a 2), .int pl])), ((a 2), .inl (cI, 24, .inl cd)), ((a 5), .inr (3, [.ref (a 6), .ref (a 7), .ref (a 8), .ref (a 9), .ref (a 10), .int tr, .int tl, .int ch])), ((a 6), .inl (cI, 8, .inl un)), ((a 7), .inl (cL, 8, .inr (.inl ow))), ((a 8), .inl (cI, 64, .inl ki)), ((a 9), .inl (cL, 64, .inr (.inl th))), ((a 10), .inl (cL, 8, .inr (.inl cm))), ((a 11), .inr (4, [.ref (a 5), .ref (a 12)])), ((a 12), .inl (cI, 8, .inl jl)), ((a 13), .inr (1, [.ref (a 5), .ref (a 14), .ref (a 15), .int kf])), ((a 14), .inl (cL, 256, .inr (.inl bz))), ((a 15), .inl (cL, 8, .inr (.inl rw)))]) (ws2 := (wX a cI cL pl cd bs br un ow ki th cm tr tl ch jl bz rw kf)) (jx_runV (As := [.int p0]) (rest := []) ⟨hx, hb, hml, hown, hts⟩ (c_X0_has l D a cI cL bs br p0 r1 hc _) (cwV 1 hts gX6_two_X0_has rfl rfl rfl (by decide +kernel) ⟨Nat.le_of_ble_eq_true rfl, Nat.le_of_ble_eq_true rfl⟩) hK hN hP hD [3, 4] rfl (by decide) 3 0 rfl rfl rfl hl.1 rfl (Nat.le_of_ble_eq_true rfl) dX6_two_5 ⟨Nat.le_of_ble_eq_true rfl, Nat.le_of_ble_eq_true rfl⟩) hP hD hS hA [3, 4] [0, 1, 2, 5, 6, 7, 8, 9, 10, 11, 12, 13, 14, 15] [0, 1, 2, 14, 15, 3, 4, 5, 6, 7, 8, 9, 10, 11, 12, 13] rfl rfl (by decide) (by decide) rfl (by decide) (fun H locs hP hD hS => ?_)
  clear hc
  refine lv_if_eq (tgt := 22) hx hb dX6_two_8 (by decide) (fun hq => ?_) (fun hq => ?_)
  · replace hf := jx_pos hq hf
    refine lv_sipush (v := -1001) hx hb dX6_two_22 (by decide) ?_
    have he := jx_eq hf
    subst he
    exact jx_reti hx hb hr hlocks rfl hK hP hD hS dX6_two_25
  · replace hf := jx_neg hq hf
    refine lv_aload_n hx hb dX6_two_11 rfl (lv_at hl 0 rfl) ?_
    refine va_get (D := D) (ci := 5) (v := .ref (a 3)) (C := RX6) (T := TX6) (N := 5) hx hb hts iw_X6_two_X6 hown hK hP 0 rfl rfl 1 (by decide) (hts (.fieldLink RX6 19 "PassedDuties" "book" "LPassedDuties$Book;") (by decide +kernel)) (fun _ h9 => h9) rfl dX6_two_12 ?_
    refine lv_iload_n hx hb dX6_two_15 rfl (lv_at hl 2 rfl) ?_
    obtain ⟨r2, hc, hf⟩ := jx_bs hf
    refine jx_ki (wr := [((a 0), .inr (5, [.ref (a 1), .ref (a 3), .ref (a 5), .ref (a 11), .ref (a 13)])), ((a 1), .inr (2, [.ref (a 2), .int pl])), ((a 2), .inl (cI, 24, .inl cd)), ((a 5), .inr (3, [.ref (a 6), .ref (a 7), .ref (a 8), .ref (a 9), .ref (a 10), .int tr, .int tl, .int ch])), ((a 6), .inl (cI, 8, .inl un)), ((a 7), .inl (cL, 8, .inr (.inl ow))), ((a 8), .inl (cI, 64, .inl ki)), ((a 9), .inl (cL, 64, .inr (.inl th))), ((a 10), .inl (cL, 8, .inr (.inl cm))), ((a 11), .inr (4, [.ref (a 5), .ref (a 12)])), ((a 12), .inl (cI, 8, .inl jl)), ((a 13), .inr (1, [.ref (a 5), .ref (a 14), .ref (a 15), .int kf])), ((a 14), .inl (cL, 256, .inr (.inl bz))), ((a 15), .inl (cL, 8, .inr (.inl rw)))]) (ws2 := (wX a cI cL pl cd bs br un ow ki th cm tr tl ch jl bz rw kf)) (jx_runV (As := [.int p1]) (rest := []) ⟨hx, hb, hml, hown, hts⟩ (c_X0_has l D a cI cL bs br p1 r2 hc _) (cwV 1 hts gX6_two_X0_has rfl rfl rfl (by decide +kernel) ⟨Nat.le_of_ble_eq_true rfl, Nat.le_of_ble_eq_true rfl⟩) hK hN hP hD [3, 4] rfl (by decide) 3 0 rfl rfl rfl hl.1 rfl (Nat.le_of_ble_eq_true rfl) dX6_two_16 ⟨Nat.le_of_ble_eq_true rfl, Nat.le_of_ble_eq_true rfl⟩) hP hD hS hA [3, 4] [0, 1, 2, 5, 6, 7, 8, 9, 10, 11, 12, 13, 14, 15] [0, 1, 2, 14, 15, 3, 4, 5, 6, 7, 8, 9, 10, 11, 12, 13] rfl rfl (by decide) (by decide) rfl (by decide) (fun H locs hP hD hS => ?_)
    clear hc
    refine lv_if_ne (tgt := 26) hx hb dX6_two_19 (by decide) (fun hq => ?_) (fun hq => ?_)
    · replace hf := jx_pos hq hf
      refine lv_aload_n hx hb dX6_two_26 rfl (lv_at hl 0 rfl) ?_
      refine va_get (D := D) (ci := 5) (v := .ref (a 3)) (C := RX6) (T := TX6) (N := 5) hx hb hts iw_X6_two_X6 hown hK hP 0 rfl rfl 1 (by decide) (hts (.fieldLink RX6 19 "PassedDuties" "book" "LPassedDuties$Book;") (by decide +kernel)) (fun _ h9 => h9) rfl dX6_two_27 ?_
      refine va_getN (D := D) (ci := 0) (v := .ref (a 4)) (C := RX0) (T := TX0) (N := 2) hx hb hts iw_X6_two_X0 hown hK hP 3 rfl rfl 0 (by decide) (va_Nw.use rfl (hN (.fieldLinkNest "PassedDuties" 76 "PassedDuties$Book" "rows" "[J" "PassedDuties") (by decide +kernel))) (fun _ h9 => h9) rfl dX6_two_30 ?_
      refine lv_iload_n hx hb dX6_two_33 rfl (lv_at hl 1 rfl) ?_
      obtain ⟨hi, hf⟩ := jx_gs hf
      refine va_lald hx hb hK hP 4 1 rfl rfl (jx_ip hi) dX6_two_34 ?_
      clear hi
      refine lv_lstore (lv' := [(4, .long (br (p0).toNatClampNeg)), (0, .ref (a 0)), (1, .int p0), (2, .int p1), (3, .int p2)]) hx hb dX6_two_35 hl (by decide) rfl (fun ls hl => ?_)
      refine lv_aload_n hx hb dX6_two_37 rfl (lv_at hl 1 rfl) ?_
      refine va_get (D := D) (ci := 5) (v := .ref (a 3)) (C := RX6) (T := TX6) (N := 5) hx hb hts iw_X6_two_X6 hown hK hP 0 rfl rfl 1 (by decide) (hts (.fieldLink RX6 19 "PassedDuties" "book" "LPassedDuties$Book;") (by decide +kernel)) (fun _ h9 => h9) rfl dX6_two_38 ?_
      refine va_getN (D := D) (ci := 0) (v := .ref (a 4)) (C := RX0) (T := TX0) (N := 2) hx hb hts iw_X6_two_X0 hown hK hP 3 rfl rfl 0 (by decide) (va_Nw.use rfl (hN (.fieldLinkNest "PassedDuties" 76 "PassedDuties$Book" "rows" "[J" "PassedDuties") (by decide +kernel))) (fun _ h9 => h9) rfl dX6_two_41 ?_
      refine lv_iload_n hx hb dX6_two_44 rfl (lv_at hl 3 rfl) ?_
      obtain ⟨hi, hf⟩ := jx_gs hf
      refine va_lald hx hb hK hP 4 1 rfl rfl (jx_ip hi) dX6_two_45 ?_
      clear hi
      refine lv_lstore (lv' := [(6, .long (br (p1).toNatClampNeg)), (4, .long (br (p0).toNatClampNeg)), (0, .ref (a 0)), (1, .int p0), (2, .int p1), (3, .int p2)]) hx hb dX6_two_46 hl (by decide) rfl (fun ls hl => ?_)
      refine lv_iload_n hx hb dX6_two_48 rfl (lv_at hl 5 rfl) ?_
      by_cases hq0 : p2 = (0 : Int32)
      · replace hf := jx_pos hq0 hf
        refine lv_tableIn (off := 27) (tgt := 76) hx hb dX6_two_49 (by rw [hq0]; decide) (by rw [hq0]; decide) (by rw [hq0]; decide) (by decide) ?_
        refine lv_lload hx hb dX6_two_76 (lv_at hl 1 rfl) ?_
        refine lv_lload hx hb dX6_two_78 (lv_at hl 0 rfl) ?_
        obtain ⟨r3, hc, hf⟩ := jx_bs hf
        refine jx_ki (wr := [((a 0), .inr (5, [.ref (a 1), .ref (a 3), .ref (a 5), .ref (a 11), .ref (a 13)])), ((a 1), .inr (2, [.ref (a 2), .int pl])), ((a 2), .inl (cI, 24, .inl cd)), ((a 3), .inr (0, [.ref (a 4), .int bs])), ((a 4), .inl (cL, 8, .inr (.inl br))), ((a 5), .inr (3, [.ref (a 6), .ref (a 7), .ref (a 8), .ref (a 9), .ref (a 10), .int tr, .int tl, .int ch])), ((a 6), .inl (cI, 8, .inl un)), ((a 7), .inl (cL, 8, .inr (.inl ow))), ((a 8), .inl (cI, 64, .inl ki)), ((a 9), .inl (cL, 64, .inr (.inl th))), ((a 10), .inl (cL, 8, .inr (.inl cm))), ((a 11), .inr (4, [.ref (a 5), .ref (a 12)])), ((a 12), .inl (cI, 8, .inl jl)), ((a 13), .inr (1, [.ref (a 5), .ref (a 14), .ref (a 15), .int kf])), ((a 14), .inl (cL, 256, .inr (.inl bz))), ((a 15), .inl (cL, 8, .inr (.inl rw)))]) (ws2 := (wX a cI cL pl cd bs br un ow ki th cm tr tl ch jl bz rw kf)) (jx_runS (As := [.long (br (p0).toNatClampNeg), .long (br (p1).toNatClampNeg)]) (rest := []) ⟨hx, hb, hml, hown, hts⟩ (c_X4_looser l D a cI cL (br (p0).toNatClampNeg) (br (p1).toNatClampNeg) r3 hc _) (va_cwS 2 hts gX6_two_X4_looser rfl rfl rfl (by decide +kernel) ⟨Nat.le_of_ble_eq_true rfl, Nat.le_of_ble_eq_true rfl⟩) hK hN hP hD [] rfl (by decide) rfl hl.1 rfl (Nat.le_of_ble_eq_true rfl) dX6_two_80 ⟨Nat.le_of_ble_eq_true rfl, Nat.le_of_ble_eq_true rfl⟩) hP hD hS hA [] [0, 1, 2, 3, 4, 5, 6, 7, 8, 9, 10, 11, 12, 13, 14, 15] [0, 1, 2, 3, 4, 5, 6, 7, 8, 9, 10, 11, 12, 13, 14, 15] rfl rfl (by decide) (by decide) rfl (by decide) (fun H locs hP hD hS => ?_)
        clear hc
        have he := jx_eq hf
        subst he
        exact jx_reti hx hb hr hlocks rfl hK hP hD hS dX6_two_83
      replace hf := jx_neg hq0 hf
      by_cases hq1 : p2 = (1 : Int32)
      · replace hf := jx_pos hq1 hf
        refine lv_tableIn (off := 35) (tgt := 84) hx hb dX6_two_49 (by rw [hq1]; decide) (by rw [hq1]; decide) (by rw [hq1]; decide) (by decide) ?_
        refine lv_aload_n hx hb dX6_two_84 rfl (lv_at hl 2 rfl) ?_
        refine va_get (D := D) (ci := 5) (v := .ref (a 3)) (C := RX6) (T := TX6) (N := 5) hx hb hts iw_X6_two_X6 hown hK hP 0 rfl rfl 1 (by decide) (hts (.fieldLink RX6 19 "PassedDuties" "book" "LPassedDuties$Book;") (by decide +kernel)) (fun _ h9 => h9) rfl dX6_two_85 ?_
        refine lv_lload hx hb dX6_two_88 (lv_at hl 1 rfl) ?_
        refine lv_lload hx hb dX6_two_90 (lv_at hl 0 rfl) ?_
        refine lv_lor hx hb dX6_two_92 ?_
        obtain ⟨r4, hc, hf⟩ := jx_bs hf
        refine jx_ki (wr := [((a 0), .inr (5, [.ref (a 1), .ref (a 3), .ref (a 5), .ref (a 11), .ref (a 13)])), ((a 1), .inr (2, [.ref (a 2), .int pl])), ((a 2), .inl (cI, 24, .inl cd)), ((a 5), .inr (3, [.ref (a 6), .ref (a 7), .ref (a 8), .ref (a 9), .ref (a 10), .int tr, .int tl, .int ch])), ((a 6), .inl (cI, 8, .inl un)), ((a 7), .inl (cL, 8, .inr (.inl ow))), ((a 8), .inl (cI, 64, .inl ki)), ((a 9), .inl (cL, 64, .inr (.inl th))), ((a 10), .inl (cL, 8, .inr (.inl cm))), ((a 11), .inr (4, [.ref (a 5), .ref (a 12)])), ((a 12), .inl (cI, 8, .inl jl)), ((a 13), .inr (1, [.ref (a 5), .ref (a 14), .ref (a 15), .int kf])), ((a 14), .inl (cL, 256, .inr (.inl bz))), ((a 15), .inl (cL, 8, .inr (.inl rw)))]) (ws2 := (wX a cI cL pl cd bs br un ow ki th cm tr tl ch jl bz rw kf)) (jx_runV (As := [.long ((br (p0).toNatClampNeg) ||| (br (p1).toNatClampNeg))]) (rest := []) ⟨hx, hb, hml, hown, hts⟩ (c_X0_find l D a cI cL bs br ((br (p0).toNatClampNeg) ||| (br (p1).toNatClampNeg)) r4 hc _) (cwV 1 hts gX6_two_X0_find rfl rfl rfl (by decide +kernel) ⟨Nat.le_of_ble_eq_true rfl, Nat.le_of_ble_eq_true rfl⟩) hK hN hP hD [3, 4] rfl (by decide) 3 0 rfl rfl rfl hl.1 rfl (Nat.le_of_ble_eq_true rfl) dX6_two_93 ⟨Nat.le_of_ble_eq_true rfl, Nat.le_of_ble_eq_true rfl⟩) hP hD hS hA [3, 4] [0, 1, 2, 5, 6, 7, 8, 9, 10, 11, 12, 13, 14, 15] [0, 1, 2, 14, 15, 3, 4, 5, 6, 7, 8, 9, 10, 11, 12, 13] rfl rfl (by decide) (by decide) rfl (by decide) (fun H locs hP hD hS => ?_)
        clear hc
        have he := jx_eq hf
        subst he
        exact jx_reti hx hb hr hlocks rfl hK hP hD hS dX6_two_96
      replace hf := jx_neg hq1 hf
      by_cases hq2 : p2 = (2 : Int32)
      · replace hf := jx_pos hq2 hf
        refine lv_tableIn (off := 48) (tgt := 97) hx hb dX6_two_49 (by rw [hq2]; decide) (by rw [hq2]; decide) (by rw [hq2]; decide) (by decide) ?_
        refine lv_aload_n hx hb dX6_two_97 rfl (lv_at hl 2 rfl) ?_
        refine va_get (D := D) (ci := 5) (v := .ref (a 3)) (C := RX6) (T := TX6) (N := 5) hx hb hts iw_X6_two_X6 hown hK hP 0 rfl rfl 1 (by decide) (hts (.fieldLink RX6 19 "PassedDuties" "book" "LPassedDuties$Book;") (by decide +kernel)) (fun _ h9 => h9) rfl dX6_two_98 ?_
        refine lv_lload hx hb dX6_two_101 (lv_at hl 1 rfl) ?_
        refine lv_lload hx hb dX6_two_103 (lv_at hl 0 rfl) ?_
        refine lv_land hx hb dX6_two_105 ?_
        obtain ⟨r5, hc, hf⟩ := jx_bs hf
        refine jx_ki (wr := [((a 0), .inr (5, [.ref (a 1), .ref (a 3), .ref (a 5), .ref (a 11), .ref (a 13)])), ((a 1), .inr (2, [.ref (a 2), .int pl])), ((a 2), .inl (cI, 24, .inl cd)), ((a 5), .inr (3, [.ref (a 6), .ref (a 7), .ref (a 8), .ref (a 9), .ref (a 10), .int tr, .int tl, .int ch])), ((a 6), .inl (cI, 8, .inl un)), ((a 7), .inl (cL, 8, .inr (.inl ow))), ((a 8), .inl (cI, 64, .inl ki)), ((a 9), .inl (cL, 64, .inr (.inl th))), ((a 10), .inl (cL, 8, .inr (.inl cm))), ((a 11), .inr (4, [.ref (a 5), .ref (a 12)])), ((a 12), .inl (cI, 8, .inl jl)), ((a 13), .inr (1, [.ref (a 5), .ref (a 14), .ref (a 15), .int kf])), ((a 14), .inl (cL, 256, .inr (.inl bz))), ((a 15), .inl (cL, 8, .inr (.inl rw)))]) (ws2 := (wX a cI cL pl cd bs br un ow ki th cm tr tl ch jl bz rw kf)) (jx_runV (As := [.long ((br (p0).toNatClampNeg) &&& (br (p1).toNatClampNeg))]) (rest := []) ⟨hx, hb, hml, hown, hts⟩ (c_X0_find l D a cI cL bs br ((br (p0).toNatClampNeg) &&& (br (p1).toNatClampNeg)) r5 hc _) (cwV 1 hts gX6_two_X0_find rfl rfl rfl (by decide +kernel) ⟨Nat.le_of_ble_eq_true rfl, Nat.le_of_ble_eq_true rfl⟩) hK hN hP hD [3, 4] rfl (by decide) 3 0 rfl rfl rfl hl.1 rfl (Nat.le_of_ble_eq_true rfl) dX6_two_106 ⟨Nat.le_of_ble_eq_true rfl, Nat.le_of_ble_eq_true rfl⟩) hP hD hS hA [3, 4] [0, 1, 2, 5, 6, 7, 8, 9, 10, 11, 12, 13, 14, 15] [0, 1, 2, 14, 15, 3, 4, 5, 6, 7, 8, 9, 10, 11, 12, 13] rfl rfl (by decide) (by decide) rfl (by decide) (fun H locs hP hD hS => ?_)
        clear hc
        have he := jx_eq hf
        subst he
        exact jx_reti hx hb hr hlocks rfl hK hP hD hS dX6_two_109
      replace hf := jx_neg hq2 hf
      refine lv_tableOut (tgt := 110) hx hb dX6_two_49 (jx_sw2 p2 hq0 hq1 hq2) (by decide) ?_
      refine lv_sipush (v := -1002) hx hb dX6_two_110 (by decide) ?_
      have he := jx_eq hf
      subst he
      exact jx_reti hx hb hr hlocks rfl hK hP hD hS dX6_two_113
    · replace hf := jx_negn hq hf
      refine lv_sipush (v := -1001) hx hb dX6_two_22 (by decide) ?_
      have he := jx_eq hf
      subst he
      exact jx_reti hx hb hr hlocks rfl hK hP hD hS dX6_two_25
theorem iw_X6_way_X6 : ∀ w ∈ wsX60, w ∈ wsX6_way := by decide +kernel
set_option maxHeartbeats 4000000 in
set_option maxRecDepth 100000 in
theorem c_X6_way (l : Launch) (D : va_G) (a : Nat → Nat) (cI cL : ClassId) (pl : Int32) (cd : (Nat → Int32)) (bs : Int32) (br : (Nat → Int64)) (un : (Nat → Int32)) (ow : (Nat → Int64)) (ki : (Nat → Int32)) (th : (Nat → Int64)) (cm : (Nat → Int64)) (tr : Int32) (tl : Int32) (ch : Int32) (jl : (Nat → Int32)) (bz : (Nat → Int64)) (rw : (Nat → Int64)) (kf : Int32) (p0 : Int32) (p1 : Int32) (p2 : Int32) (res : (Int32 × (Nat → Int32))) (hf : pf_X6_way ow ki cm tr jl p0 p1 p2 = some res) : jMi l yX6_way wsX6_way ({ frames := 5, cells := 0, slots := 0, locals := 120 }) D [(cI, .int), (cL, .long)] [.ref (a 0), .int p0, .int p1, .int p2] (wX a cI cL pl cd bs br un ow ki th cm tr tl ch jl bz rw kf) res.1 (wX a cI cL pl cd bs br un ow ki th cm tr tl ch res.2 bz rw kf) := by
  intro sz
  refine Met.ofW (cc := cX6_way) (maxL := 4) (ret := (some .int)) (by decide) rfl ?_
  intro p e s m args below meth c s₁ B hml hv
  obtain ⟨rfl, hsz, hP, hK, hD0, hN⟩ := hv
  have hx := B.exec
  have hb := B.bytes
  have hr := B.returns
  have hts := atoms_spec (ws := wsX6_way) B.pre
  have hown : s.vm.findClass RX6 = some m.cls := findClass_of_methodNamed B.named
  have hlocks := B.notSynchronized
  subst hsz
  have hD := hD0.self (sz := s.heap.size)
  generalize hAe : va_A (wX a cI cL pl cd bs br un ow ki th cm tr tl ch jl bz rw kf) s.heap.size = A at hD ⊢
  have hA : ∀ q : Nat, s.heap.size ≤ q → A q := fun q h => by rw [← hAe]; exact Or.inr h
  have hS : va_S A s.heap s.heap [] := va_S.rf
  have hl := lv_entry ([.ref (a 0), .int p0, .int p1, .int p2]) (n := 4) (Nat.le_of_ble_eq_true rfl)
  rw [lg_entry_eq]
  generalize (lg_sl ([.ref (a 0), .int p0, .int p1, .int p2]) ++ List.replicate (4 - (lg_sl ([.ref (a 0), .int p0, .int p1, .int p2])).length) Slot.unset).toArray = ls at hl ⊢
  have hl : lv_has ls 4 [(0, .ref (a 0)), (1, .int p0), (2, .int p1), (3, .int p2)] := hl
  have hf : pf_X6_way ow ki cm tr jl p0 p1 p2 = some res := hf
  refine lv_aload_n hx hb dX6_way_0 rfl (lv_at hl 0 rfl) ?_
  refine va_get (D := D) (ci := 5) (v := .ref (a 5)) (C := RX6) (T := TX6) (N := 5) hx hb hts iw_X6_way_X6 hown hK hP 0 rfl rfl 2 (by decide) (hts (.fieldLink RX6 26 "PassedDuties" "parts" "LPassedDuties$Parts;") (by decide +kernel)) (fun _ h9 => h9) rfl dX6_way_1 ?_
  refine lv_iload_n hx hb dX6_way_4 rfl (lv_at hl 1 rfl) ?_
  obtain ⟨r1, hc, hf⟩ := jx_bs hf
  refine jx_ki (wr := [((a 0), .inr (5, [.ref (a 1), .ref (a 3), .ref (a 5), .ref (a 11), .ref (a 13)])), ((a 1), .inr (2, [.ref (a 2), .int pl])), ((a 2), .inl (cI, 24, .inl cd)), ((a 3), .inr (0, [.ref (a 4), .int bs])), ((a 4), .inl (cL, 8, .inr (.inl br))), ((a 11), .inr (4, [.ref (a 5), .ref (a 12)])), ((a 12), .inl (cI, 8, .inl jl)), ((a 13), .inr (1, [.ref (a 5), .ref (a 14), .ref (a 15), .int kf])), ((a 14), .inl (cL, 256, .inr (.inl bz))), ((a 15), .inl (cL, 8, .inr (.inl rw)))]) (ws2 := (wX a cI cL pl cd bs br un ow ki th cm tr tl ch jl bz rw kf)) (jx_runV (As := [.int p0]) (rest := []) ⟨hx, hb, hml, hown, hts⟩ (c_X3_has l D a cI cL un ow ki th cm tr tl ch p0 r1 hc _) (cwV 1 hts gX6_way_X3_has rfl rfl rfl (by decide +kernel) ⟨Nat.le_of_ble_eq_true rfl, Nat.le_of_ble_eq_true rfl⟩) hK hN hP hD [5, 6, 7, 8, 9, 10] rfl (by decide) 5 3 rfl rfl rfl hl.1 rfl (Nat.le_of_ble_eq_true rfl) dX6_way_5 ⟨Nat.le_of_ble_eq_true rfl, Nat.le_of_ble_eq_true rfl⟩) hP hD hS hA [5, 6, 7, 8, 9, 10] [0, 1, 2, 3, 4, 11, 12, 13, 14, 15] [0, 1, 2, 3, 4, 10, 11, 12, 13, 14, 15, 5, 6, 7, 8, 9] rfl rfl (by decide) (by decide) rfl (by decide) (fun H locs hP hD hS => ?_)
  clear hc
  refine lv_if_ne (tgt := 15) hx hb dX6_way_8 (by decide) (fun hq => ?_) (fun hq => ?_)
  · replace hf := jx_pos hq hf
    refine lv_iload_n hx hb dX6_way_15 rfl (lv_at hl 2 rfl) ?_
    obtain ⟨r2, hc, hf⟩ := jx_bs hf
    refine jx_ki (wr := [((a 0), .inr (5, [.ref (a 1), .ref (a 3), .ref (a 5), .ref (a 11), .ref (a 13)])), ((a 1), .inr (2, [.ref (a 2), .int pl])), ((a 2), .inl (cI, 24, .inl cd)), ((a 3), .inr (0, [.ref (a 4), .int bs])), ((a 4), .inl (cL, 8, .inr (.inl br))), ((a 5), .inr (3, [.ref (a 6), .ref (a 7), .ref (a 8), .ref (a 9), .ref (a 10), .int tr, .int tl, .int ch])), ((a 6), .inl (cI, 8, .inl un)), ((a 7), .inl (cL, 8, .inr (.inl ow))), ((a 8), .inl (cI, 64, .inl ki)), ((a 9), .inl (cL, 64, .inr (.inl th))), ((a 10), .inl (cL, 8, .inr (.inl cm))), ((a 11), .inr (4, [.ref (a 5), .ref (a 12)])), ((a 12), .inl (cI, 8, .inl jl)), ((a 13), .inr (1, [.ref (a 5), .ref (a 14), .ref (a 15), .int kf])), ((a 14), .inl (cL, 256, .inr (.inl bz))), ((a 15), .inl (cL, 8, .inr (.inl rw)))]) (ws2 := (wX a cI cL pl cd bs br un ow ki th cm tr tl ch jl bz rw kf)) (jx_runS (As := [.int p1]) (rest := []) ⟨hx, hb, hml, hown, hts⟩ (c_X6_isItem l D a cI cL p1 r2 hc _) (va_cwS 1 hts gX6_way_X6_isItem rfl rfl rfl (by decide +kernel) ⟨Nat.le_of_ble_eq_true rfl, Nat.le_of_ble_eq_true rfl⟩) hK hN hP hD [] rfl (by decide) rfl hl.1 rfl (Nat.le_of_ble_eq_true rfl) dX6_way_16 ⟨Nat.le_of_ble_eq_true rfl, Nat.le_of_ble_eq_true rfl⟩) hP hD hS hA [] [0, 1, 2, 3, 4, 5, 6, 7, 8, 9, 10, 11, 12, 13, 14, 15] [0, 1, 2, 3, 4, 5, 6, 7, 8, 9, 10, 11, 12, 13, 14, 15] rfl rfl (by decide) (by decide) rfl (by decide) (fun H locs hP hD hS => ?_)
    clear hc
    refine lv_if_eq (tgt := 35) hx hb dX6_way_19 (by decide) (fun hq => ?_) (fun hq => ?_)
    · replace hf := jx_pos hq hf
      refine lv_sipush (v := -1002) hx hb dX6_way_35 (by decide) ?_
      have he := jx_eq hf
      subst he
      exact jx_reti hx hb hr hlocks rfl hK hP hD hS dX6_way_38
    · replace hf := jx_neg hq hf
      refine lv_aload_n hx hb dX6_way_22 rfl (lv_at hl 0 rfl) ?_
      refine va_get (D := D) (ci := 5) (v := .ref (a 11)) (C := RX6) (T := TX6) (N := 5) hx hb hts iw_X6_way_X6 hown hK hP 0 rfl rfl 3 (by decide) (hts (.fieldLink RX6 35 "PassedDuties" "ways" "LPassedDuties$Ways;") (by decide +kernel)) (fun _ h9 => h9) rfl dX6_way_23 ?_
      refine lv_iload_n hx hb dX6_way_26 rfl (lv_at hl 1 rfl) ?_
      refine lv_iload_n hx hb dX6_way_27 rfl (lv_at hl 2 rfl) ?_
      refine lv_iload_n hx hb dX6_way_28 rfl (lv_at hl 3 rfl) ?_
      obtain ⟨r3, hc, hf⟩ := jx_bs hf
      refine jx_ki (wr := [((a 0), .inr (5, [.ref (a 1), .ref (a 3), .ref (a 5), .ref (a 11), .ref (a 13)])), ((a 1), .inr (2, [.ref (a 2), .int pl])), ((a 2), .inl (cI, 24, .inl cd)), ((a 3), .inr (0, [.ref (a 4), .int bs])), ((a 4), .inl (cL, 8, .inr (.inl br))), ((a 13), .inr (1, [.ref (a 5), .ref (a 14), .ref (a 15), .int kf])), ((a 14), .inl (cL, 256, .inr (.inl bz))), ((a 15), .inl (cL, 8, .inr (.inl rw)))]) (ws2 := (wX a cI cL pl cd bs br un ow ki th cm tr tl ch r3.2 bz rw kf)) (jx_runV (As := [.int p0, .int p1, .int p2]) (rest := []) ⟨hx, hb, hml, hown, hts⟩ (c_X5_partAt l D a cI cL un ow ki th cm tr tl ch jl p0 p1 p2 r3 hc _) (cwV 3 hts gX6_way_X5_partAt rfl rfl rfl (by decide +kernel) ⟨Nat.le_of_ble_eq_true rfl, Nat.le_of_ble_eq_true rfl⟩) hK hN hP hD [11, 12, 5, 6, 7, 8, 9, 10] rfl (by decide) 11 4 rfl rfl rfl hl.1 rfl (Nat.le_of_ble_eq_true rfl) dX6_way_29 ⟨Nat.le_of_ble_eq_true rfl, Nat.le_of_ble_eq_true rfl⟩) hP hD hS hA [11, 12, 5, 6, 7, 8, 9, 10] [0, 1, 2, 3, 4, 13, 14, 15] [0, 1, 2, 3, 4, 10, 11, 12, 13, 14, 15, 8, 9, 5, 6, 7] rfl rfl (by decide) (by decide) rfl (by decide) (fun H locs hP hD hS => ?_)
      clear hc
      refine lv_goto (tgt := 38) hx hb dX6_way_32 (by decide) ?_
      have he := jx_eq hf
      subst he
      exact jx_reti hx hb hr hlocks rfl hK hP hD hS dX6_way_38
  · replace hf := jx_negn hq hf
    refine lv_sipush (v := -1001) hx hb dX6_way_11 (by decide) ?_
    have he := jx_eq hf
    subst he
    exact jx_reti hx hb hr hlocks rfl hK hP hD hS dX6_way_14
