theorem iw_X5_nearer_X5 : ∀ w ∈ wsX50, w ∈ wsX5_nearer := by decide +kernel
set_option maxHeartbeats 4000000 in
set_option maxRecDepth 100000 in
theorem c_X5_nearer (l : Launch) (D : va_G) (a : Nat → Nat) (cI cL : ClassId) (un : (Nat → Int32)) (ow : (Nat → Int64)) (ki : (Nat → Int32)) (th : (Nat → Int64)) (cm : (Nat → Int64)) (tr : Int32) (tl : Int32) (ch : Int32) (jl : (Nat → Int32)) (p0 : Int32) (p1 : Int32) (p2 : Int32) (res : Int32) (hf : pf_X5_nearer ki jl p0 p1 p2 = some res) : jMi l yX5_nearer wsX5_nearer ({ frames := 2, cells := 0, slots := 0, locals := 46 }) D [(cI, .int), (cL, .long)] [.ref (a 11), .int p0, .int p1, .int p2] (wWy a cI cL un ow ki th cm tr tl ch jl) res (wWy a cI cL un ow ki th cm tr tl ch jl) := by
  intro sz
  refine Met.ofW (cc := cX5_nearer) (maxL := 5) (ret := (some .int)) (by decide) rfl ?_
  intro p e s m args below meth c s₁ B hml hv
  obtain ⟨rfl, hsz, hP, hK, hD0, hN⟩ := hv
  have hx := B.exec
  have hb := B.bytes
  have hr := B.returns
  have hts := atoms_spec (ws := wsX5_nearer) B.pre
  have hown : s.vm.findClass RX5 = some m.cls := findClass_of_methodNamed B.named
  have hlocks := B.notSynchronized
  subst hsz
  have hD := hD0.self (sz := s.heap.size)
  generalize hAe : va_A (wWy a cI cL un ow ki th cm tr tl ch jl) s.heap.size = A at hD ⊢
  have hA : ∀ q : Nat, s.heap.size ≤ q → A q := fun q h => by rw [← hAe]; exact Or.inr h
  have hS : va_S A s.heap s.heap [] := va_S.rf
  have hl := lv_entry ([.ref (a 11), .int p0, .int p1, .int p2]) (n := 5) (Nat.le_of_ble_eq_true rfl)
  rw [lg_entry_eq]
  generalize (lg_sl ([.ref (a 11), .int p0, .int p1, .int p2]) ++ List.replicate (5 - (lg_sl ([.ref (a 11), .int p0, .int p1, .int p2])).length) Slot.unset).toArray = ls at hl ⊢
  have hl : lv_has ls 5 [(0, .ref (a 11)), (1, .int p0), (2, .int p1), (3, .int p2)] := hl
  have hf : pf_X5_nearer ki jl p0 p1 p2 = some res := hf
  refine lv_iconst (v := 0) hx hb dX5_nearer_0 (by decide) ?_
  refine lv_istore (lv' := [(4, .int (0 : Int32)), (0, .ref (a 11)), (1, .int p0), (2, .int p1), (3, .int p2)]) hx hb dX5_nearer_1 hl (by decide) rfl (fun ls hl => ?_)
  obtain ⟨k2, hf, hkk2⟩ := jx_bs hf
  have hXk2 : ∀ (xk2 : Unit), k2 = Sum.inl xk2 → ∀ (H : Heap) (locs : List Loc) (ls : Array Slot), va_P D vwCl (wWy a cI cL un ow ki th cm tr tl ch jl) H → va_D A (wWy a cI cL un ow ki th cm tr tl ch jl) → va_S A s.heap H locs → lv_has ls 5 [] → jx_Wi p l e wsX5_nearer ({ frames := 2, cells := 0, slots := 0, locals := 46 }) s m [.ref (a 11), .int p0, .int p1, .int p2] below meth c D [(cI, .int), (cL, .long)] res (wWy a cI cL un ow ki th cm tr tl ch jl) A H locs (F0 m 44 ls []) := by
    clear hf hP hD hS hl
    intro xk2 he H locs ls hP hD hS hl
    subst he
    have hf := hkk2
    refine lv_iconst (v := -1) hx hb dX5_nearer_44 (by decide) ?_
    have he := jx_eq hf
    subst he
    exact jx_reti hx hb hr hlocks rfl hK hP hD hS dX5_nearer_45
  have hLk2 : ∀ (n : Nat) (s1 : Int32) (H : Heap) (locs : List Loc) (ls : Array Slot), jx_iter (pf_X5_nearer_s1 ki jl p0 p1 p2) n s1 = some k2 → va_P D vwCl (wWy a cI cL un ow ki th cm tr tl ch jl) H → va_D A (wWy a cI cL un ow ki th cm tr tl ch jl) → va_S A s.heap H locs → lv_has ls 5 [(0, .ref (a 11)), (1, .int p0), (2, .int p1), (3, .int p2), (4, .int s1)] → jx_Wi p l e wsX5_nearer ({ frames := 2, cells := 0, slots := 0, locals := 46 }) s m [.ref (a 11), .int p0, .int p1, .int p2] below meth c D [(cI, .int), (cL, .long)] res (wWy a cI cL un ow ki th cm tr tl ch jl) A H locs (F0 m 3 ls []) := by
    clear hf hP hD hS hl
    intro n
    induction n with
    | zero => intro s1 _ _ _ hf; cases hf
    | succ n ihk2 =>
      intro s1 H locs ls hf hP hD hS hl
      obtain ⟨q3, hf, hgk2⟩ := jx_bs hf
      refine lv_iload hx hb dX5_nearer_3 (lv_at hl 4 rfl) ?_
      refine lv_bipush (v := 8) hx hb dX5_nearer_5 (by decide) ?_
      refine lv_icmp_ge (tgt := 44) hx hb dX5_nearer_7 (by decide) (fun hq => ?_) (fun hq => ?_)
      · replace hf := jx_pos hq hf
        have he := jx_eq hf
        subst he
        have he : Sum.inl _ = k2 := jx_eq hgk2
        subst he
        exact hXk2 _ rfl _ _ _ hP hD hS (lv_sub hl [] rfl)
      · replace hf := jx_neg hq hf
        refine lv_aload_n hx hb dX5_nearer_10 rfl (lv_at hl 0 rfl) ?_
        refine va_get (D := D) (ci := 4) (v := .ref (a 12)) (C := RX5) (T := TX5) (N := 2) hx hb hts iw_X5_nearer_X5 hown hK hP 0 rfl rfl 1 (by decide) (hts (.fieldLink RX5 9 "PassedDuties$Ways" "joinsLeft" "[I") (by decide +kernel)) (fun _ h9 => h9) rfl dX5_nearer_11 ?_
        refine lv_iload hx hb dX5_nearer_14 (lv_at hl 4 rfl) ?_
        obtain ⟨hi, hf⟩ := jx_gs hf
        refine va_iald hx hb hK hP 1 0 rfl rfl (jx_ip hi) dX5_nearer_16 ?_
        clear hi
        refine lv_iload_n hx hb dX5_nearer_17 rfl (lv_at hl 2 rfl) ?_
        refine lv_icmp_ne (tgt := 38) hx hb dX5_nearer_18 (by decide) (fun hq => ?_) (fun hq => ?_)
        · replace hf := jx_pos hq hf
          refine lv_iinc (v := (s1 + (1 : Int32))) (lv' := [(4, .int (s1 + (1 : Int32))), (0, .ref (a 11)), (1, .int p0), (2, .int p1), (3, .int p2)]) hx hb dX5_nearer_38 hl (k := 4) rfl rfl (by decide) rfl (fun ls hl => ?_)
          refine lv_goto (tgt := 3) hx hb dX5_nearer_41 (by decide) ?_
          have he := jx_eq hf
          subst he
          exact ihk2 (s1 + (1 : Int32)) _ _ _ hgk2 hP hD hS (lv_sub hl [1, 2, 3, 4, 0] rfl)
        · replace hf := jx_negn hq hf
          refine lv_aload_n hx hb dX5_nearer_21 rfl (lv_at hl 0 rfl) ?_
          refine va_get (D := D) (ci := 4) (v := .ref (a 5)) (C := RX5) (T := TX5) (N := 2) hx hb hts iw_X5_nearer_X5 hown hK hP 0 rfl rfl 0 (by decide) (hts (.fieldLink RX5 15 "PassedDuties$Ways" "parts" "LPassedDuties$Parts;") (by decide +kernel)) (fun _ h9 => h9) rfl dX5_nearer_22 ?_
          refine lv_iload_n hx hb dX5_nearer_25 rfl (lv_at hl 1 rfl) ?_
          refine lv_iload hx hb dX5_nearer_26 (lv_at hl 4 rfl) ?_
          refine lv_iload_n hx hb dX5_nearer_28 rfl (lv_at hl 3 rfl) ?_
          obtain ⟨r4, hc, hf⟩ := jx_bs hf
          refine jx_ki (wr := [((a 11), .inr (4, [.ref (a 5), .ref (a 12)])), ((a 12), .inl (cI, 8, .inl jl))]) (ws2 := (wWy a cI cL un ow ki th cm tr tl ch jl)) (jx_runV (As := [.int p0, .int s1, .int p2]) (rest := []) ⟨hx, hb, hml, hown, hts⟩ (c_X3_lets l D a cI cL un ow ki th cm tr tl ch p0 s1 p2 r4 hc _) (cwV 3 hts gX5_nearer_X3_lets rfl rfl rfl (by decide +kernel) ⟨Nat.le_of_ble_eq_true rfl, Nat.le_of_ble_eq_true rfl⟩) hK hN hP hD [2, 3, 4, 5, 6, 7] rfl (by decide) 2 3 rfl rfl rfl hl.1 rfl (Nat.le_of_ble_eq_true rfl) dX5_nearer_29 ⟨Nat.le_of_ble_eq_true rfl, Nat.le_of_ble_eq_true rfl⟩) hP hD hS hA [2, 3, 4, 5, 6, 7] [0, 1] [0, 1, 2, 3, 4, 5, 6, 7] rfl rfl (by decide) (by decide) rfl (by decide) (fun H locs hP hD hS => ?_)
          clear hc
          refine lv_if_eq (tgt := 38) hx hb dX5_nearer_32 (by decide) (fun hq => ?_) (fun hq => ?_)
          · replace hf := jx_pos hq hf
            refine lv_iinc (v := (s1 + (1 : Int32))) (lv' := [(4, .int (s1 + (1 : Int32))), (0, .ref (a 11)), (1, .int p0), (2, .int p1), (3, .int p2)]) hx hb dX5_nearer_38 hl (k := 4) rfl rfl (by decide) rfl (fun ls hl => ?_)
            refine lv_goto (tgt := 3) hx hb dX5_nearer_41 (by decide) ?_
            have he := jx_eq hf
            subst he
            exact ihk2 (s1 + (1 : Int32)) _ _ _ hgk2 hP hD hS (lv_sub hl [1, 2, 3, 4, 0] rfl)
          · replace hf := jx_neg hq hf
            refine lv_iload hx hb dX5_nearer_35 (lv_at hl 4 rfl) ?_
            have he := jx_eq hf
            subst he
            have he : Sum.inr _ = k2 := jx_eq hgk2
            subst he
            have hf := hkk2
            have he := jx_eq hf
            subst he
            exact jx_reti hx hb hr hlocks rfl hK hP hD hS dX5_nearer_37
  exact hLk2 jx_F (0 : Int32) _ _ _ hf hP hD hS (lv_sub hl [1, 2, 3, 4, 0] rfl)
theorem iw_X5_measure_X3 : ∀ w ∈ wsX30, w ∈ wsX5_measure := by decide +kernel
theorem iw_X5_measure_X5 : ∀ w ∈ wsX50, w ∈ wsX5_measure := by decide +kernel
set_option maxHeartbeats 4000000 in
set_option maxRecDepth 100000 in
theorem c_X5_measure (l : Launch) (D : va_G) (a : Nat → Nat) (cI cL : ClassId) (un : (Nat → Int32)) (ow : (Nat → Int64)) (ki : (Nat → Int32)) (th : (Nat → Int64)) (cm : (Nat → Int64)) (tr : Int32) (tl : Int32) (ch : Int32) (jl : (Nat → Int32)) (p0 : Int32) (p1 : Int32) (res : (Nat → Int32)) (hf : pf_X5_measure ow ki tr jl p0 p1 = some res) : jMv l yX5_measure wsX5_measure ({ frames := 3, cells := 0, slots := 0, locals := 70 }) D [(cI, .int), (cL, .long)] [.ref (a 11), .int p0, .int p1] (wWy a cI cL un ow ki th cm tr tl ch jl) (wWy a cI cL un ow ki th cm tr tl ch res) := by
  intro sz
  refine Met.ofW (cc := cX5_measure) (maxL := 5) (ret := none) (by decide) rfl ?_
  intro p e s m args below meth c s₁ B hml hv
  obtain ⟨rfl, hsz, hP, hK, hD0, hN⟩ := hv
  have hx := B.exec
  have hb := B.bytes
  have hr := B.returns
  have hts := atoms_spec (ws := wsX5_measure) B.pre
  have hown : s.vm.findClass RX5 = some m.cls := findClass_of_methodNamed B.named
  have hlocks := B.notSynchronized
  subst hsz
  have hD := hD0.self (sz := s.heap.size)
  generalize hAe : va_A (wWy a cI cL un ow ki th cm tr tl ch jl) s.heap.size = A at hD ⊢
  have hA : ∀ q : Nat, s.heap.size ≤ q → A q := fun q h => by rw [← hAe]; exact Or.inr h
  have hS : va_S A s.heap s.heap [] := va_S.rf
  have hl := lv_entry ([.ref (a 11), .int p0, .int p1]) (n := 5) (Nat.le_of_ble_eq_true rfl)
  rw [lg_entry_eq]
  generalize (lg_sl ([.ref (a 11), .int p0, .int p1]) ++ List.replicate (5 - (lg_sl ([.ref (a 11), .int p0, .int p1])).length) Slot.unset).toArray = ls at hl ⊢
  have hl : lv_has ls 5 [(0, .ref (a 11)), (1, .int p0), (2, .int p1)] := hl
  have hf : pf_X5_measure ow ki tr jl p0 p1 = some res := hf
  refine lv_iconst (v := 0) hx hb dX5_measure_0 (by decide) ?_
  refine lv_istore_n (lv' := [(3, .int (0 : Int32)), (0, .ref (a 11)), (1, .int p0), (2, .int p1)]) hx hb dX5_measure_1 rfl hl (by decide) rfl (fun ls hl => ?_)
  obtain ⟨k2, hf, hkk2⟩ := jx_bs hf
  have hXk2 : ∀ (H : Heap) (locs : List Loc) (ls : Array Slot), va_P D vwCl (wWy a cI cL un ow ki th cm tr tl ch k2) H → va_D A (wWy a cI cL un ow ki th cm tr tl ch k2) → va_S A s.heap H locs → lv_has ls 5 [(0, .ref (a 11)), (2, .int p1)] → jx_Wv p l e wsX5_measure ({ frames := 3, cells := 0, slots := 0, locals := 70 }) s m [.ref (a 11), .int p0, .int p1] below meth c D [(cI, .int), (cL, .long)] (wWy a cI cL un ow ki th cm tr tl ch res) A H locs (F0 m 65 ls []) := by
    clear hf hP hD hS hl
    intro H locs ls hP hD hS hl
    have hf := hkk2
    refine lv_iconst (v := 1) hx hb dX5_measure_65 (by decide) ?_
    refine lv_istore_n (lv' := [(3, .int (1 : Int32)), (0, .ref (a 11)), (2, .int p1)]) hx hb dX5_measure_66 rfl hl (by decide) rfl (fun ls hl => ?_)
    obtain ⟨k9, hf, hkk9⟩ := jx_bs hf
    have hXk9 : ∀ (H : Heap) (locs : List Loc) (ls : Array Slot), va_P D vwCl (wWy a cI cL un ow ki th cm tr tl ch k9) H → va_D A (wWy a cI cL un ow ki th cm tr tl ch k9) → va_S A s.heap H locs → lv_has ls 5 [] → jx_Wv p l e wsX5_measure ({ frames := 3, cells := 0, slots := 0, locals := 70 }) s m [.ref (a 11), .int p0, .int p1] below meth c D [(cI, .int), (cL, .long)] (wWy a cI cL un ow ki th cm tr tl ch res) A H locs (F0 m 128 ls []) := by
      clear hf hP hD hS hl
      intro H locs ls hP hD hS hl
      have hf := hkk9
      have he := jx_eq hf
      subst he
      exact jx_retv hx hb hr hlocks hK hP hD hS dX5_measure_128
    have hLk9 : ∀ (n : Nat) (s8 : (Int32 × (Nat → Int32))) (H : Heap) (locs : List Loc) (ls : Array Slot), jx_iter (pf_X5_measure_s2 ki p1) n s8 = some k9 → va_P D vwCl (wWy a cI cL un ow ki th cm tr tl ch s8.2) H → va_D A (wWy a cI cL un ow ki th cm tr tl ch s8.2) → va_S A s.heap H locs → lv_has ls 5 [(0, .ref (a 11)), (2, .int p1), (3, .int s8.1)] → jx_Wv p l e wsX5_measure ({ frames := 3, cells := 0, slots := 0, locals := 70 }) s m [.ref (a 11), .int p0, .int p1] below meth c D [(cI, .int), (cL, .long)] (wWy a cI cL un ow ki th cm tr tl ch res) A H locs (F0 m 67 ls []) := by
      clear hf hP hD hS hl
      intro n
      induction n with
      | zero => intro s8 _ _ _ hf; cases hf
      | succ n ihk9 =>
        intro s8 H locs ls hf hP hD hS hl
        obtain ⟨q10, hf, hgk9⟩ := jx_bs hf
        refine lv_iload_n hx hb dX5_measure_67 rfl (lv_at hl 2 rfl) ?_
        refine lv_bipush (v := 8) hx hb dX5_measure_68 (by decide) ?_
        refine lv_icmp_ge (tgt := 128) hx hb dX5_measure_70 (by decide) (fun hq => ?_) (fun hq => ?_)
        · replace hf := jx_pos hq hf
          have he := jx_eq hf
          subst he
          have he : _ = k9 := jx_eq hgk9
          subst he
          exact hXk9 _ _ _ hP hD hS (lv_sub hl [] rfl)
        · replace hf := jx_neg hq hf
          refine lv_iconst (v := 0) hx hb dX5_measure_73 (by decide) ?_
          refine lv_istore (lv' := [(4, .int (0 : Int32)), (0, .ref (a 11)), (2, .int p1), (3, .int s8.1)]) hx hb dX5_measure_74 hl (by decide) rfl (fun ls hl => ?_)
          obtain ⟨k12, hf, hkk12⟩ := jx_bs hf
          have hXk12 : ∀ (H : Heap) (locs : List Loc) (ls : Array Slot), va_P D vwCl (wWy a cI cL un ow ki th cm tr tl ch k12) H → va_D A (wWy a cI cL un ow ki th cm tr tl ch k12) → va_S A s.heap H locs → lv_has ls 5 [(0, .ref (a 11)), (2, .int p1), (3, .int s8.1)] → jx_Wv p l e wsX5_measure ({ frames := 3, cells := 0, slots := 0, locals := 70 }) s m [.ref (a 11), .int p0, .int p1] below meth c D [(cI, .int), (cL, .long)] (wWy a cI cL un ow ki th cm tr tl ch res) A H locs (F0 m 122 ls []) := by
            clear hf hP hD hS hl
            intro H locs ls hP hD hS hl
            have hf := hkk12
            refine lv_iinc (v := (s8.1 + (1 : Int32))) (lv' := [(3, .int (s8.1 + (1 : Int32))), (0, .ref (a 11)), (2, .int p1)]) hx hb dX5_measure_122 hl (k := 2) rfl rfl (by decide) rfl (fun ls hl => ?_)
            refine lv_goto (tgt := 67) hx hb dX5_measure_125 (by decide) ?_
            have he := jx_eq hf
            subst he
            exact ihk9 ((s8.1 + (1 : Int32)), k12) _ _ _ hgk9 hP hD hS (lv_sub hl [1, 2, 0] rfl)
          have hLk12 : ∀ (n : Nat) (s11 : (Int32 × (Nat → Int32))) (H : Heap) (locs : List Loc) (ls : Array Slot), jx_iter (pf_X5_measure_s3 ki p1 s8) n s11 = some k12 → va_P D vwCl (wWy a cI cL un ow ki th cm tr tl ch s11.2) H → va_D A (wWy a cI cL un ow ki th cm tr tl ch s11.2) → va_S A s.heap H locs → lv_has ls 5 [(0, .ref (a 11)), (2, .int p1), (3, .int s8.1), (4, .int s11.1)] → jx_Wv p l e wsX5_measure ({ frames := 3, cells := 0, slots := 0, locals := 70 }) s m [.ref (a 11), .int p0, .int p1] below meth c D [(cI, .int), (cL, .long)] (wWy a cI cL un ow ki th cm tr tl ch res) A H locs (F0 m 76 ls []) := by
            clear hf hP hD hS hl
            intro n
            induction n with
            | zero => intro s11 _ _ _ hf; cases hf
            | succ n ihk12 =>
              intro s11 H locs ls hf hP hD hS hl
              obtain ⟨q13, hf, hgk12⟩ := jx_bs hf
              refine lv_iload hx hb dX5_measure_76 (lv_at hl 3 rfl) ?_
              refine lv_bipush (v := 8) hx hb dX5_measure_78 (by decide) ?_
              refine lv_icmp_ge (tgt := 122) hx hb dX5_measure_80 (by decide) (fun hq => ?_) (fun hq => ?_)
              · replace hf := jx_pos hq hf
                have he := jx_eq hf
                subst he
                have he : _ = k12 := jx_eq hgk12
                subst he
                exact hXk12 _ _ _ hP hD hS (lv_sub hl [0, 1, 2] rfl)
              · replace hf := jx_neg hq hf
                refine lv_aload_n hx hb dX5_measure_83 rfl (lv_at hl 0 rfl) ?_
                refine va_get (D := D) (ci := 4) (v := .ref (a 12)) (C := RX5) (T := TX5) (N := 2) hx hb hts iw_X5_measure_X5 hown hK hP 0 rfl rfl 1 (by decide) (hts (.fieldLink RX5 9 "PassedDuties$Ways" "joinsLeft" "[I") (by decide +kernel)) (fun _ h9 => h9) rfl dX5_measure_84 ?_
                refine lv_iload hx hb dX5_measure_87 (lv_at hl 3 rfl) ?_
                obtain ⟨hi, hf⟩ := jx_gs hf
                refine va_iald hx hb hK hP 1 0 rfl rfl (jx_ip hi) dX5_measure_89 ?_
                clear hi
                refine lv_iconst (v := -1) hx hb dX5_measure_90 (by decide) ?_
                obtain ⟨j14, hf, hkj14⟩ := jx_bs hf
                have hJj14 : ∀ (H : Heap) (locs : List Loc) (ls : Array Slot), va_P D vwCl (wWy a cI cL un ow ki th cm tr tl ch j14) H → va_D A (wWy a cI cL un ow ki th cm tr tl ch j14) → va_S A s.heap H locs → lv_has ls 5 [(0, .ref (a 11)), (2, .int p1), (3, .int s8.1), (4, .int s11.1)] → jx_Wv p l e wsX5_measure ({ frames := 3, cells := 0, slots := 0, locals := 70 }) s m [.ref (a 11), .int p0, .int p1] below meth c D [(cI, .int), (cL, .long)] (wWy a cI cL un ow ki th cm tr tl ch res) A H locs (F0 m 116 ls []) := by
                  clear hf hP hD hS hl
                  intro H locs ls hP hD hS hl
                  have hf := hkj14
                  refine lv_iinc (v := (s11.1 + (1 : Int32))) (lv' := [(4, .int (s11.1 + (1 : Int32))), (0, .ref (a 11)), (2, .int p1), (3, .int s8.1)]) hx hb dX5_measure_116 hl (k := 3) rfl rfl (by decide) rfl (fun ls hl => ?_)
                  refine lv_goto (tgt := 76) hx hb dX5_measure_119 (by decide) ?_
                  have he := jx_eq hf
                  subst he
                  exact ihk12 ((s11.1 + (1 : Int32)), j14) _ _ _ hgk12 hP hD hS (lv_sub hl [1, 2, 3, 0] rfl)
                refine lv_icmp_ne (tgt := 116) hx hb dX5_measure_91 (by decide) (fun hq => ?_) (fun hq => ?_)
                · replace hf := jx_pos hq hf
                  have he := jx_eq hf
                  subst he
                  exact hJj14 _ _ _ hP hD hS (lv_sub hl [0, 1, 2, 3] rfl)
                · replace hf := jx_negn hq hf
                  refine lv_aload_n hx hb dX5_measure_94 rfl (lv_at hl 0 rfl) ?_
                  refine lv_iload hx hb dX5_measure_95 (lv_at hl 3 rfl) ?_
                  refine lv_iload_n hx hb dX5_measure_97 rfl (lv_at hl 2 rfl) ?_
                  refine lv_iconst (v := 1) hx hb dX5_measure_98 (by decide) ?_
                  refine lv_isub hx hb dX5_measure_99 ?_
                  refine lv_iload_n hx hb dX5_measure_100 rfl (lv_at hl 1 rfl) ?_
                  obtain ⟨r15, hc, hf⟩ := jx_bs hf
                  refine jx_ki (wr := []) (ws2 := (wWy a cI cL un ow ki th cm tr tl ch s11.2)) (jx_runV (As := [.int s11.1, .int (s8.1 - (1 : Int32)), .int p1]) (rest := []) ⟨hx, hb, hml, hown, hts⟩ (c_X5_nearer l D a cI cL un ow ki th cm tr tl ch s11.2 s11.1 (s8.1 - (1 : Int32)) p1 r15 hc _) (cwV 3 hts gX5_measure_X5_nearer rfl rfl rfl (by decide +kernel) ⟨Nat.le_of_ble_eq_true rfl, Nat.le_of_ble_eq_true rfl⟩) hK hN hP hD [0, 1, 2, 3, 4, 5, 6, 7] rfl (by decide) 0 4 rfl rfl rfl hl.1 rfl (Nat.le_of_ble_eq_true rfl) dX5_measure_101 ⟨Nat.le_of_ble_eq_true rfl, Nat.le_of_ble_eq_true rfl⟩) hP hD hS hA [0, 1, 2, 3, 4, 5, 6, 7] [] [0, 1, 2, 3, 4, 5, 6, 7] rfl rfl (by decide) (by decide) rfl (by decide) (fun H locs hP hD hS => ?_)
                  clear hc
                  refine lv_iconst (v := -1) hx hb dX5_measure_104 (by decide) ?_
                  refine lv_icmp_eq (tgt := 116) hx hb dX5_measure_105 (by decide) (fun hq => ?_) (fun hq => ?_)
                  · replace hf := jx_pos hq hf
                    have he := jx_eq hf
                    subst he
                    exact hJj14 _ _ _ hP hD hS (lv_sub hl [0, 1, 2, 3] rfl)
                  · replace hf := jx_neg hq hf
                    refine lv_aload_n hx hb dX5_measure_108 rfl (lv_at hl 0 rfl) ?_
                    refine va_get (D := D) (ci := 4) (v := .ref (a 12)) (C := RX5) (T := TX5) (N := 2) hx hb hts iw_X5_measure_X5 hown hK hP 0 rfl rfl 1 (by decide) (hts (.fieldLink RX5 9 "PassedDuties$Ways" "joinsLeft" "[I") (by decide +kernel)) (fun _ h9 => h9) rfl dX5_measure_109 ?_
                    refine lv_iload hx hb dX5_measure_112 (lv_at hl 3 rfl) ?_
                    refine lv_iload_n hx hb dX5_measure_114 rfl (lv_at hl 2 rfl) ?_
                    obtain ⟨hi, hf⟩ := jx_gs hf
                    refine va_iast hx hb hK hP hD hS 1 0 rfl rfl (jx_ip hi) dX5_measure_115 (fun H locs hP hD hS => ?_)
                    clear hi
                    have hP : va_P D vwCl (wWy a cI cL un ow ki th cm tr tl ch (upd s11.2 (s11.1).toNatClampNeg s8.1)) H := hP
                    have hD : va_D A (wWy a cI cL un ow ki th cm tr tl ch (upd s11.2 (s11.1).toNatClampNeg s8.1)) := hD
                    have he := jx_eq hf
                    subst he
                    exact hJj14 _ _ _ hP hD hS (lv_sub hl [0, 1, 2, 3] rfl)
          exact hLk12 jx_F ((0 : Int32), s8.2) _ _ _ hf hP hD hS (lv_sub hl [1, 2, 3, 0] rfl)
    exact hLk9 jx_F ((1 : Int32), k2) _ _ _ hf hP hD hS (lv_sub hl [1, 2, 0] rfl)
  have hLk2 : ∀ (n : Nat) (s1 : (Int32 × (Nat → Int32))) (H : Heap) (locs : List Loc) (ls : Array Slot), jx_iter (pf_X5_measure_s1 ow tr p0 p1) n s1 = some k2 → va_P D vwCl (wWy a cI cL un ow ki th cm tr tl ch s1.2) H → va_D A (wWy a cI cL un ow ki th cm tr tl ch s1.2) → va_S A s.heap H locs → lv_has ls 5 [(0, .ref (a 11)), (1, .int p0), (2, .int p1), (3, .int s1.1)] → jx_Wv p l e wsX5_measure ({ frames := 3, cells := 0, slots := 0, locals := 70 }) s m [.ref (a 11), .int p0, .int p1] below meth c D [(cI, .int), (cL, .long)] (wWy a cI cL un ow ki th cm tr tl ch res) A H locs (F0 m 2 ls []) := by
    clear hf hP hD hS hl
    intro n
    induction n with
    | zero => intro s1 _ _ _ hf; cases hf
    | succ n ihk2 =>
      intro s1 H locs ls hf hP hD hS hl
      obtain ⟨q3, hf, hgk2⟩ := jx_bs hf
      refine lv_iload_n hx hb dX5_measure_2 rfl (lv_at hl 3 rfl) ?_
      refine lv_bipush (v := 8) hx hb dX5_measure_3 (by decide) ?_
      refine lv_icmp_ge (tgt := 65) hx hb dX5_measure_5 (by decide) (fun hq => ?_) (fun hq => ?_)
      · replace hf := jx_pos hq hf
        have he := jx_eq hf
        subst he
        have he : _ = k2 := jx_eq hgk2
        subst he
        exact hXk2 _ _ _ hP hD hS (lv_sub hl [0, 2] rfl)
      · replace hf := jx_neg hq hf
        refine lv_aload_n hx hb dX5_measure_8 rfl (lv_at hl 0 rfl) ?_
        refine va_get (D := D) (ci := 4) (v := .ref (a 5)) (C := RX5) (T := TX5) (N := 2) hx hb hts iw_X5_measure_X5 hown hK hP 0 rfl rfl 0 (by decide) (hts (.fieldLink RX5 15 "PassedDuties$Ways" "parts" "LPassedDuties$Parts;") (by decide +kernel)) (fun _ h9 => h9) rfl dX5_measure_9 ?_
        refine lv_iload_n hx hb dX5_measure_12 rfl (lv_at hl 3 rfl) ?_
        obtain ⟨r4, hc, hf⟩ := jx_bs hf
        refine jx_ki (wr := [((a 11), .inr (4, [.ref (a 5), .ref (a 12)])), ((a 12), .inl (cI, 8, .inl s1.2))]) (ws2 := (wWy a cI cL un ow ki th cm tr tl ch s1.2)) (jx_runV (As := [.int s1.1]) (rest := []) ⟨hx, hb, hml, hown, hts⟩ (c_X3_has l D a cI cL un ow ki th cm tr tl ch s1.1 r4 hc _) (cwV 1 hts gX5_measure_X3_has rfl rfl rfl (by decide +kernel) ⟨Nat.le_of_ble_eq_true rfl, Nat.le_of_ble_eq_true rfl⟩) hK hN hP hD [2, 3, 4, 5, 6, 7] rfl (by decide) 2 3 rfl rfl rfl hl.1 rfl (Nat.le_of_ble_eq_true rfl) dX5_measure_13 ⟨Nat.le_of_ble_eq_true rfl, Nat.le_of_ble_eq_true rfl⟩) hP hD hS hA [2, 3, 4, 5, 6, 7] [0, 1] [0, 1, 2, 3, 4, 5, 6, 7] rfl rfl (by decide) (by decide) rfl (by decide) (fun H locs hP hD hS => ?_)
        clear hc
        obtain ⟨j5, hf, hkj5⟩ := jx_bs hf
        have hJj5 : ∀ (H : Heap) (locs : List Loc) (ls : Array Slot), va_P D vwCl (wWy a cI cL un ow ki th cm tr tl ch s1.2) H → va_D A (wWy a cI cL un ow ki th cm tr tl ch s1.2) → va_S A s.heap H locs → lv_has ls 5 [(0, .ref (a 11)), (1, .int p0), (2, .int p1), (3, .int s1.1)] → jx_Wv p l e wsX5_measure ({ frames := 3, cells := 0, slots := 0, locals := 70 }) s m [.ref (a 11), .int p0, .int p1] below meth c D [(cI, .int), (cL, .long)] (wWy a cI cL un ow ki th cm tr tl ch res) A H locs (F0 m 41 ls [.int j5]) := by
          clear hf hP hD hS hl
          intro H locs ls hP hD hS hl
          have hf := hkj5
          refine lv_istore (lv' := [(4, .int j5), (0, .ref (a 11)), (1, .int p0), (2, .int p1), (3, .int s1.1)]) hx hb dX5_measure_41 hl (by decide) rfl (fun ls hl => ?_)
          refine lv_aload_n hx hb dX5_measure_43 rfl (lv_at hl 1 rfl) ?_
          refine va_get (D := D) (ci := 4) (v := .ref (a 12)) (C := RX5) (T := TX5) (N := 2) hx hb hts iw_X5_measure_X5 hown hK hP 0 rfl rfl 1 (by decide) (hts (.fieldLink RX5 9 "PassedDuties$Ways" "joinsLeft" "[I") (by decide +kernel)) (fun _ h9 => h9) rfl dX5_measure_44 ?_
          refine lv_iload_n hx hb dX5_measure_47 rfl (lv_at hl 4 rfl) ?_
          refine lv_iload hx hb dX5_measure_48 (lv_at hl 0 rfl) ?_
          obtain ⟨j7, hf, hkj7⟩ := jx_bs hf
          have hJj7 : ∀ (H : Heap) (locs : List Loc) (ls : Array Slot), va_P D vwCl (wWy a cI cL un ow ki th cm tr tl ch s1.2) H → va_D A (wWy a cI cL un ow ki th cm tr tl ch s1.2) → va_S A s.heap H locs → lv_has ls 5 [(0, .ref (a 11)), (1, .int p0), (2, .int p1), (3, .int s1.1)] → jx_Wv p l e wsX5_measure ({ frames := 3, cells := 0, slots := 0, locals := 70 }) s m [.ref (a 11), .int p0, .int p1] below meth c D [(cI, .int), (cL, .long)] (wWy a cI cL un ow ki th cm tr tl ch res) A H locs (F0 m 58 ls [.int j7, .int s1.1, .ref (a 12)]) := by
            clear hf hP hD hS hl
            intro H locs ls hP hD hS hl
            have hf := hkj7
            obtain ⟨hi, hf⟩ := jx_gs hf
            refine va_iast hx hb hK hP hD hS 1 0 rfl rfl (jx_ip hi) dX5_measure_58 (fun H locs hP hD hS => ?_)
            clear hi
            have hP : va_P D vwCl (wWy a cI cL un ow ki th cm tr tl ch (upd s1.2 (s1.1).toNatClampNeg j7)) H := hP
            have hD : va_D A (wWy a cI cL un ow ki th cm tr tl ch (upd s1.2 (s1.1).toNatClampNeg j7)) := hD
            refine lv_iinc (v := (s1.1 + (1 : Int32))) (lv' := [(3, .int (s1.1 + (1 : Int32))), (0, .ref (a 11)), (1, .int p0), (2, .int p1)]) hx hb dX5_measure_59 hl (k := 3) rfl rfl (by decide) rfl (fun ls hl => ?_)
            refine lv_goto (tgt := 2) hx hb dX5_measure_62 (by decide) ?_
            have he := jx_eq hf
            subst he
            exact ihk2 ((s1.1 + (1 : Int32)), (upd s1.2 (s1.1).toNatClampNeg j7)) _ _ _ hgk2 hP hD hS (lv_sub hl [1, 2, 3, 0] rfl)
          refine lv_if_eq (tgt := 57) hx hb dX5_measure_50 (by decide) (fun hq => ?_) (fun hq => ?_)
          · replace hf := jx_pos hq hf
            refine lv_iconst (v := -1) hx hb dX5_measure_57 (by decide) ?_
            have he := jx_eq hf
            subst he
            exact hJj7 _ _ _ hP hD hS (lv_sub hl [1, 2, 3, 4] rfl)
          · replace hf := jx_neg hq hf
            refine lv_iconst (v := 0) hx hb dX5_measure_53 (by decide) ?_
            refine lv_goto (tgt := 58) hx hb dX5_measure_54 (by decide) ?_
            have he := jx_eq hf
            subst he
            exact hJj7 _ _ _ hP hD hS (lv_sub hl [1, 2, 3, 4] rfl)
        refine lv_if_eq (tgt := 40) hx hb dX5_measure_16 (by decide) (fun hq => ?_) (fun hq => ?_)
        · replace hf := jx_pos hq hf
          refine lv_iconst (v := 0) hx hb dX5_measure_40 (by decide) ?_
          have he := jx_eq hf
          subst he
          exact hJj5 _ _ _ hP hD hS (lv_sub hl [0, 1, 2, 3] rfl)
        · replace hf := jx_neg hq hf
          refine lv_aload_n hx hb dX5_measure_19 rfl (lv_at hl 0 rfl) ?_
          refine va_get (D := D) (ci := 4) (v := .ref (a 5)) (C := RX5) (T := TX5) (N := 2) hx hb hts iw_X5_measure_X5 hown hK hP 0 rfl rfl 0 (by decide) (hts (.fieldLink RX5 15 "PassedDuties$Ways" "parts" "LPassedDuties$Parts;") (by decide +kernel)) (fun _ h9 => h9) rfl dX5_measure_20 ?_
          refine va_getN (D := D) (ci := 3) (v := .ref (a 7)) (C := RX3) (T := TX3) (N := 8) hx hb hts iw_X5_measure_X3 hown hK hP 2 rfl rfl 1 (by decide) (va_Nw.use rfl (hN (.fieldLinkNest "PassedDuties$Ways" 37 "PassedDuties$Parts" "own" "[J" "PassedDuties") (by decide +kernel))) (fun _ h9 => h9) rfl dX5_measure_23 ?_
          refine lv_iload_n hx hb dX5_measure_26 rfl (lv_at hl 3 rfl) ?_
          obtain ⟨hi, hf⟩ := jx_gs hf
          refine va_lald hx hb hK hP 4 1 rfl rfl (jx_ip hi) dX5_measure_27 ?_
          clear hi
          refine lv_iload_n hx hb dX5_measure_28 rfl (lv_at hl 1 rfl) ?_
          obtain ⟨r6, hc, hf⟩ := jx_bs hf
          refine jx_ki (wr := [((a 11), .inr (4, [.ref (a 5), .ref (a 12)])), ((a 12), .inl (cI, 8, .inl s1.2)), ((a 5), .inr (3, [.ref (a 6), .ref (a 7), .ref (a 8), .ref (a 9), .ref (a 10), .int tr, .int tl, .int ch])), ((a 6), .inl (cI, 8, .inl un)), ((a 7), .inl (cL, 8, .inr (.inl ow))), ((a 8), .inl (cI, 64, .inl ki)), ((a 9), .inl (cL, 64, .inr (.inl th))), ((a 10), .inl (cL, 8, .inr (.inl cm)))]) (ws2 := (wWy a cI cL un ow ki th cm tr tl ch s1.2)) (jx_runS (As := [.long (ow (s1.1).toNatClampNeg), .int p0]) (rest := []) ⟨hx, hb, hml, hown, hts⟩ (c_X4_greatest l D a cI cL (ow (s1.1).toNatClampNeg) p0 r6 hc _) (va_cwS 2 hts gX5_measure_X4_greatest rfl rfl rfl (by decide +kernel) ⟨Nat.le_of_ble_eq_true rfl, Nat.le_of_ble_eq_true rfl⟩) hK hN hP hD [] rfl (by decide) rfl hl.1 rfl (Nat.le_of_ble_eq_true rfl) dX5_measure_29 ⟨Nat.le_of_ble_eq_true rfl, Nat.le_of_ble_eq_true rfl⟩) hP hD hS hA [] [0, 1, 2, 3, 4, 5, 6, 7] [0, 1, 2, 3, 4, 5, 6, 7] rfl rfl (by decide) (by decide) rfl (by decide) (fun H locs hP hD hS => ?_)
          clear hc
          refine lv_iload_n hx hb dX5_measure_32 rfl (lv_at hl 2 rfl) ?_
          refine lv_icmp_ne (tgt := 40) hx hb dX5_measure_33 (by decide) (fun hq => ?_) (fun hq => ?_)
          · replace hf := jx_pos hq hf
            refine lv_iconst (v := 0) hx hb dX5_measure_40 (by decide) ?_
            have he := jx_eq hf
            subst he
            exact hJj5 _ _ _ hP hD hS (lv_sub hl [0, 1, 2, 3] rfl)
          · replace hf := jx_negn hq hf
            refine lv_iconst (v := 1) hx hb dX5_measure_36 (by decide) ?_
            refine lv_goto (tgt := 41) hx hb dX5_measure_37 (by decide) ?_
            have he := jx_eq hf
            subst he
            exact hJj5 _ _ _ hP hD hS (lv_sub hl [0, 1, 2, 3] rfl)
  exact hLk2 jx_F ((0 : Int32), jl) _ _ _ hf hP hD hS (lv_sub hl [1, 2, 3, 0] rfl)
theorem iw_X5_partAt_X5 : ∀ w ∈ wsX50, w ∈ wsX5_partAt := by decide +kernel
set_option maxHeartbeats 4000000 in
set_option maxRecDepth 100000 in
theorem c_X5_partAt (l : Launch) (D : va_G) (a : Nat → Nat) (cI cL : ClassId) (un : (Nat → Int32)) (ow : (Nat → Int64)) (ki : (Nat → Int32)) (th : (Nat → Int64)) (cm : (Nat → Int64)) (tr : Int32) (tl : Int32) (ch : Int32) (jl : (Nat → Int32)) (p0 : Int32) (p1 : Int32) (p2 : Int32) (res : (Int32 × (Nat → Int32))) (hf : pf_X5_partAt ow ki cm tr jl p0 p1 p2 = some res) : jMi l yX5_partAt wsX5_partAt ({ frames := 4, cells := 0, slots := 0, locals := 94 }) D [(cI, .int), (cL, .long)] [.ref (a 11), .int p0, .int p1, .int p2] (wWy a cI cL un ow ki th cm tr tl ch jl) res.1 (wWy a cI cL un ow ki th cm tr tl ch res.2) := by
  intro sz
  refine Met.ofW (cc := cX5_partAt) (maxL := 7) (ret := (some .int)) (by decide) rfl ?_
  intro p e s m args below meth c s₁ B hml hv
  obtain ⟨rfl, hsz, hP, hK, hD0, hN⟩ := hv
  have hx := B.exec
  have hb := B.bytes
  have hr := B.returns
  have hts := atoms_spec (ws := wsX5_partAt) B.pre
  have hown : s.vm.findClass RX5 = some m.cls := findClass_of_methodNamed B.named
  have hlocks := B.notSynchronized
  subst hsz
  have hD := hD0.self (sz := s.heap.size)
  generalize hAe : va_A (wWy a cI cL un ow ki th cm tr tl ch jl) s.heap.size = A at hD ⊢
  have hA : ∀ q : Nat, s.heap.size ≤ q → A q := fun q h => by rw [← hAe]; exact Or.inr h
  have hS : va_S A s.heap s.heap [] := va_S.rf
  have hl := lv_entry ([.ref (a 11), .int p0, .int p1, .int p2]) (n := 7) (Nat.le_of_ble_eq_true rfl)
  rw [lg_entry_eq]
  generalize (lg_sl ([.ref (a 11), .int p0, .int p1, .int p2]) ++ List.replicate (7 - (lg_sl ([.ref (a 11), .int p0, .int p1, .int p2])).length) Slot.unset).toArray = ls at hl ⊢
  have hl : lv_has ls 7 [(0, .ref (a 11)), (1, .int p0), (2, .int p1), (3, .int p2)] := hl
  have hf : pf_X5_partAt ow ki cm tr jl p0 p1 p2 = some res := hf
  refine lv_aload_n hx hb dX5_partAt_0 rfl (lv_at hl 0 rfl) ?_
  refine va_get (D := D) (ci := 4) (v := .ref (a 5)) (C := RX5) (T := TX5) (N := 2) hx hb hts iw_X5_partAt_X5 hown hK hP 0 rfl rfl 0 (by decide) (hts (.fieldLink RX5 15 "PassedDuties$Ways" "parts" "LPassedDuties$Parts;") (by decide +kernel)) (fun _ h9 => h9) rfl dX5_partAt_1 ?_
  refine lv_iload_n hx hb dX5_partAt_4 rfl (lv_at hl 1 rfl) ?_
  refine lv_iload_n hx hb dX5_partAt_5 rfl (lv_at hl 2 rfl) ?_
  obtain ⟨r1, hc, hf⟩ := jx_bs hf
  refine jx_ki (wr := [((a 11), .inr (4, [.ref (a 5), .ref (a 12)])), ((a 12), .inl (cI, 8, .inl jl))]) (ws2 := (wWy a cI cL un ow ki th cm tr tl ch jl)) (jx_runV (As := [.int p0, .int p1]) (rest := []) ⟨hx, hb, hml, hown, hts⟩ (c_X3_reachHeld l D a cI cL un ow ki th cm tr tl ch p0 p1 r1 hc _) (cwV 2 hts gX5_partAt_X3_reachHeld rfl rfl rfl (by decide +kernel) ⟨Nat.le_of_ble_eq_true rfl, Nat.le_of_ble_eq_true rfl⟩) hK hN hP hD [2, 3, 4, 5, 6, 7] rfl (by decide) 2 3 rfl rfl rfl hl.1 rfl (Nat.le_of_ble_eq_true rfl) dX5_partAt_6 ⟨Nat.le_of_ble_eq_true rfl, Nat.le_of_ble_eq_true rfl⟩) hP hD hS hA [2, 3, 4, 5, 6, 7] [0, 1] [0, 1, 2, 3, 4, 5, 6, 7] rfl rfl (by decide) (by decide) rfl (by decide) (fun H locs hP hD hS => ?_)
  clear hc
  refine lv_istore (lv' := [(4, .int r1), (0, .ref (a 11)), (1, .int p0), (2, .int p1), (3, .int p2)]) hx hb dX5_partAt_9 hl (by decide) rfl (fun ls hl => ?_)
  refine lv_iload hx hb dX5_partAt_11 (lv_at hl 0 rfl) ?_
  refine lv_if_eq (tgt := 20) hx hb dX5_partAt_13 (by decide) (fun hq => ?_) (fun hq => ?_)
  · replace hf := jx_pos hq hf
    refine lv_iconst (v := -1) hx hb dX5_partAt_20 (by decide) ?_
    have he := jx_eq hf
    subst he
    exact jx_reti hx hb hr hlocks rfl hK hP hD hS dX5_partAt_21
  · replace hf := jx_neg hq hf
    refine lv_iload_n hx hb dX5_partAt_16 rfl (lv_at hl 4 rfl) ?_
    refine lv_if_ge (tgt := 22) hx hb dX5_partAt_17 (by decide) (fun hq => ?_) (fun hq => ?_)
    · replace hf := jx_pos hq hf
      refine lv_aload_n hx hb dX5_partAt_22 rfl (lv_at hl 1 rfl) ?_
      refine lv_iload_n hx hb dX5_partAt_23 rfl (lv_at hl 3 rfl) ?_
      refine lv_iload hx hb dX5_partAt_24 (lv_at hl 0 rfl) ?_
      obtain ⟨r2, hc, hf⟩ := jx_bs hf
      refine jx_kv (wr := []) (ws2 := (wWy a cI cL un ow ki th cm tr tl ch r2)) (jx_runV (As := [.int p1, .int r1]) (rest := []) ⟨hx, hb, hml, hown, hts⟩ (c_X5_measure l D a cI cL un ow ki th cm tr tl ch jl p1 r1 r2 hc _) (cwV 2 hts gX5_partAt_X5_measure rfl rfl rfl (by decide +kernel) ⟨Nat.le_of_ble_eq_true rfl, Nat.le_of_ble_eq_true rfl⟩) hK hN hP hD [0, 1, 2, 3, 4, 5, 6, 7] rfl (by decide) 0 4 rfl rfl rfl hl.1 rfl (Nat.le_of_ble_eq_true rfl) dX5_partAt_26 ⟨Nat.le_of_ble_eq_true rfl, Nat.le_of_ble_eq_true rfl⟩) hP hD hS hA [0, 1, 2, 3, 4, 5, 6, 7] [] [0, 1, 2, 3, 4, 5, 6, 7] rfl rfl (by decide) (by decide) rfl (by decide) (fun H locs hP hD hS => ?_)
      clear hc
      refine lv_iload_n hx hb dX5_partAt_29 rfl (lv_at hl 4 rfl) ?_
      refine lv_aload_n hx hb dX5_partAt_30 rfl (lv_at hl 1 rfl) ?_
      refine va_get (D := D) (ci := 4) (v := .ref (a 12)) (C := RX5) (T := TX5) (N := 2) hx hb hts iw_X5_partAt_X5 hown hK hP 0 rfl rfl 1 (by decide) (hts (.fieldLink RX5 9 "PassedDuties$Ways" "joinsLeft" "[I") (by decide +kernel)) (fun _ h9 => h9) rfl dX5_partAt_31 ?_
      refine lv_iload_n hx hb dX5_partAt_34 rfl (lv_at hl 2 rfl) ?_
      obtain ⟨hi, hf⟩ := jx_gs hf
      refine va_iald hx hb hK hP 1 0 rfl rfl (jx_ip hi) dX5_partAt_35 ?_
      clear hi
      refine lv_icmp_le (tgt := 41) hx hb dX5_partAt_36 (by decide) (fun hq => ?_) (fun hq => ?_)
      · replace hf := jx_pos hq hf
        refine lv_iload_n hx hb dX5_partAt_41 rfl (lv_at hl 2 rfl) ?_
        refine lv_istore (lv' := [(5, .int p0), (4, .int r1), (0, .ref (a 11)), (1, .int p0), (2, .int p1), (3, .int p2)]) hx hb dX5_partAt_42 hl (by decide) rfl (fun ls hl => ?_)
        refine lv_iconst (v := 0) hx hb dX5_partAt_44 (by decide) ?_
        refine lv_istore (lv' := [(6, .int (0 : Int32)), (5, .int p0), (4, .int r1), (0, .ref (a 11)), (1, .int p0), (2, .int p1), (3, .int p2)]) hx hb dX5_partAt_45 hl (by decide) rfl (fun ls hl => ?_)
        obtain ⟨k4, hf, hkk4⟩ := jx_bs hf
        have hXk4 : ∀ (H : Heap) (locs : List Loc) (ls : Array Slot), va_P D vwCl (wWy a cI cL un ow ki th cm tr tl ch r2) H → va_D A (wWy a cI cL un ow ki th cm tr tl ch r2) → va_S A s.heap H locs → lv_has ls 7 [(5, .int k4)] → jx_Wi p l e wsX5_partAt ({ frames := 4, cells := 0, slots := 0, locals := 94 }) s m [.ref (a 11), .int p0, .int p1, .int p2] below meth c D [(cI, .int), (cL, .long)] (res.1) (wWy a cI cL un ow ki th cm tr tl ch res.2) A H locs (F0 m 84 ls []) := by
          clear hf hP hD hS hl
          intro H locs ls hP hD hS hl
          have hf := hkk4
          refine lv_iload hx hb dX5_partAt_84 (lv_at hl 0 rfl) ?_
          have he := jx_eq hf
          subst he
          exact jx_reti hx hb hr hlocks rfl hK hP hD hS dX5_partAt_86
        have hLk4 : ∀ (n : Nat) (s3 : (Int32 × Int32)) (H : Heap) (locs : List Loc) (ls : Array Slot), jx_iter (pf_X5_partAt_s1 ki p2 r1 r2) n s3 = some k4 → va_P D vwCl (wWy a cI cL un ow ki th cm tr tl ch r2) H → va_D A (wWy a cI cL un ow ki th cm tr tl ch r2) → va_S A s.heap H locs → lv_has ls 7 [(0, .ref (a 11)), (3, .int p2), (4, .int r1), (5, .int s3.1), (6, .int s3.2)] → jx_Wi p l e wsX5_partAt ({ frames := 4, cells := 0, slots := 0, locals := 94 }) s m [.ref (a 11), .int p0, .int p1, .int p2] below meth c D [(cI, .int), (cL, .long)] (res.1) (wWy a cI cL un ow ki th cm tr tl ch res.2) A H locs (F0 m 47 ls []) := by
          clear hf hP hD hS hl
          intro n
          induction n with
          | zero => intro s3 _ _ _ hf; cases hf
          | succ n ihk4 =>
            intro s3 H locs ls hf hP hD hS hl
            obtain ⟨q5, hf, hgk4⟩ := jx_bs hf
            refine lv_iload hx hb dX5_partAt_47 (lv_at hl 3 rfl) ?_
            refine lv_iconst (v := -1) hx hb dX5_partAt_49 (by decide) ?_
            refine lv_icmp_eq (tgt := 84) hx hb dX5_partAt_50 (by decide) (fun hq => ?_) (fun hq => ?_)
            · replace hf := jx_pos hq hf
              have he := jx_eq hf
              subst he
              have he : _ = k4 := jx_eq hgk4
              subst he
              exact hXk4 _ _ _ hP hD hS (lv_sub hl [3] rfl)
            · replace hf := jx_neg hq hf
              refine lv_iload hx hb dX5_partAt_53 (lv_at hl 4 rfl) ?_
              refine lv_iload_n hx hb dX5_partAt_55 rfl (lv_at hl 1 rfl) ?_
              refine lv_icmp_ge (tgt := 84) hx hb dX5_partAt_56 (by decide) (fun hq => ?_) (fun hq => ?_)
              · replace hf := jx_pos hq hf
                have he := jx_eq hf
                subst he
                have he : _ = k4 := jx_eq hgk4
                subst he
                exact hXk4 _ _ _ hP hD hS (lv_sub hl [3] rfl)
              · replace hf := jx_neg hq hf
                refine lv_aload_n hx hb dX5_partAt_59 rfl (lv_at hl 0 rfl) ?_
                refine lv_iload hx hb dX5_partAt_60 (lv_at hl 3 rfl) ?_
                refine lv_aload_n hx hb dX5_partAt_62 rfl (lv_at hl 0 rfl) ?_
                refine va_get (D := D) (ci := 4) (v := .ref (a 12)) (C := RX5) (T := TX5) (N := 2) hx hb hts iw_X5_partAt_X5 hown hK hP 0 rfl rfl 1 (by decide) (hts (.fieldLink RX5 9 "PassedDuties$Ways" "joinsLeft" "[I") (by decide +kernel)) (fun _ h9 => h9) rfl dX5_partAt_63 ?_
                refine lv_iload hx hb dX5_partAt_66 (lv_at hl 3 rfl) ?_
                obtain ⟨hi, hf⟩ := jx_gs hf
                refine va_iald hx hb hK hP 1 0 rfl rfl (jx_ip hi) dX5_partAt_68 ?_
                clear hi
                refine lv_iconst (v := 1) hx hb dX5_partAt_69 (by decide) ?_
                refine lv_isub hx hb dX5_partAt_70 ?_
                refine lv_iload hx hb dX5_partAt_71 (lv_at hl 2 rfl) ?_
                obtain ⟨r6, hc, hf⟩ := jx_bs hf
                refine jx_ki (wr := []) (ws2 := (wWy a cI cL un ow ki th cm tr tl ch r2)) (jx_runV (As := [.int s3.1, .int ((r2 (s3.1).toNatClampNeg) - (1 : Int32)), .int r1]) (rest := []) ⟨hx, hb, hml, hown, hts⟩ (c_X5_nearer l D a cI cL un ow ki th cm tr tl ch r2 s3.1 ((r2 (s3.1).toNatClampNeg) - (1 : Int32)) r1 r6 hc _) (cwV 3 hts gX5_partAt_X5_nearer rfl rfl rfl (by decide +kernel) ⟨Nat.le_of_ble_eq_true rfl, Nat.le_of_ble_eq_true rfl⟩) hK hN hP hD [0, 1, 2, 3, 4, 5, 6, 7] rfl (by decide) 0 4 rfl rfl rfl hl.1 rfl (Nat.le_of_ble_eq_true rfl) dX5_partAt_73 ⟨Nat.le_of_ble_eq_true rfl, Nat.le_of_ble_eq_true rfl⟩) hP hD hS hA [0, 1, 2, 3, 4, 5, 6, 7] [] [0, 1, 2, 3, 4, 5, 6, 7] rfl rfl (by decide) (by decide) rfl (by decide) (fun H locs hP hD hS => ?_)
                clear hc
                refine lv_istore (lv' := [(5, .int r6), (0, .ref (a 11)), (3, .int p2), (4, .int r1), (6, .int s3.2)]) hx hb dX5_partAt_76 hl (by decide) rfl (fun ls hl => ?_)
                refine lv_iinc (v := (s3.2 + (1 : Int32))) (lv' := [(6, .int (s3.2 + (1 : Int32))), (5, .int r6), (0, .ref (a 11)), (3, .int p2), (4, .int r1)]) hx hb dX5_partAt_78 hl (k := 4) rfl rfl (by decide) rfl (fun ls hl => ?_)
                refine lv_goto (tgt := 47) hx hb dX5_partAt_81 (by decide) ?_
                have he := jx_eq hf
                subst he
                exact ihk4 (r6, (s3.2 + (1 : Int32))) _ _ _ hgk4 hP hD hS (lv_sub hl [2, 3, 4, 1, 0] rfl)
        exact hLk4 jx_F (p0, (0 : Int32)) _ _ _ hf hP hD hS (lv_sub hl [3, 6, 2, 1, 0] rfl)
      · replace hf := jx_neg hq hf
        refine lv_iconst (v := -1) hx hb dX5_partAt_39 (by decide) ?_
        have he := jx_eq hf
        subst he
        exact jx_reti hx hb hr hlocks rfl hK hP hD hS dX5_partAt_40
    · replace hf := jx_neg hq hf
      refine lv_iconst (v := -1) hx hb dX5_partAt_20 (by decide) ?_
      have he := jx_eq hf
      subst he
      exact jx_reti hx hb hr hlocks rfl hK hP hD hS dX5_partAt_21
