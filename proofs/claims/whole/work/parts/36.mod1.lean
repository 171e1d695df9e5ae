set_option maxHeartbeats 4000000 in
set_option maxRecDepth 100000 in
theorem c_X7_has (l : Launch) (D : va_G) (a : Nat → Nat) (cI cL : ClassId) (p0 : Int32) (p1 : Int32) (res : Int32) (hf : pf_X7_has p0 p1 = some res) : jMi l yX7_has wsX7_has ({ frames := 0, cells := 0, slots := 0, locals := 0 }) D [(cI, .int), (cL, .long)] [.int p0, .int p1] (wE a cI cL) res (wE a cI cL) := by
  intro sz
  refine Met.ofW (cc := cX7_has) (maxL := 2) (ret := (some .boolean)) (by decide) rfl ?_
  intro p e s m args below meth c s₁ B hml hv
  obtain ⟨rfl, hsz, hP, hK, hD0, hN⟩ := hv
  have hx := B.exec
  have hb := B.bytes
  have hr := B.returns
  have hts := atoms_spec (ws := wsX7_has) B.pre
  have hown : s.vm.findClass RX7 = some m.cls := findClass_of_methodNamed B.named
  have hlocks := B.notSynchronized
  subst hsz
  have hD := hD0.self (sz := s.heap.size)
  generalize hAe : va_A (wE a cI cL) s.heap.size = A at hD ⊢
  have hA : ∀ q : Nat, s.heap.size ≤ q → A q := fun q h => by rw [← hAe]; exact Or.inr h
  have hS : va_S A s.heap s.heap [] := va_S.rf
  have hl := lv_entry ([.int p0, .int p1]) (n := 2) (Nat.le_of_ble_eq_true rfl)
  rw [lg_entry_eq]
  generalize (lg_sl ([.int p0, .int p1]) ++ List.replicate (2 - (lg_sl ([.int p0, .int p1])).length) Slot.unset).toArray = ls at hl ⊢
  have hl : lv_has ls 2 [(0, .int p0), (1, .int p1)] := hl
  have hf : pf_X7_has p0 p1 = some res := hf
  refine lv_iload_n hx hb dX7_has_0 rfl (lv_at hl 0 rfl) ?_
  refine lv_iload_n hx hb dX7_has_1 rfl (lv_at hl 1 rfl) ?_
  refine lv_ishr hx hb dX7_has_2 ?_
  refine lv_iconst (v := 1) hx hb dX7_has_3 (by decide) ?_
  refine lv_iand hx hb dX7_has_4 ?_
  refine lv_iconst (v := 1) hx hb dX7_has_5 (by decide) ?_
  refine lv_icmp_ne (tgt := 13) hx hb dX7_has_6 (by decide) (fun hq => ?_) (fun hq => ?_)
  · replace hf := jx_pos hq hf
    refine lv_iconst (v := 0) hx hb dX7_has_13 (by decide) ?_
    have he := jx_eq hf
    subst he
    exact jx_retz hx hb hr hlocks narrow_b0 rfl hK hP hD hS dX7_has_14
  · replace hf := jx_negn hq hf
    refine lv_iconst (v := 1) hx hb dX7_has_9 (by decide) ?_
    refine lv_goto (tgt := 14) hx hb dX7_has_10 (by decide) ?_
    have he := jx_eq hf
    subst he
    exact jx_retz hx hb hr hlocks narrow_b1 rfl hK hP hD hS dX7_has_14
theorem iw_X7_ownReach_X7 : ∀ w ∈ wsX70, w ∈ wsX7_ownReach := by decide +kernel
set_option maxHeartbeats 4000000 in
set_option maxRecDepth 100000 in
theorem c_X7_ownReach (l : Launch) (D : va_G) (a : Nat → Nat) (cI cL : ClassId) (nl : Int32) (np : (Nat → Int32)) (nt : Int32) (nr : (Nat → Int32)) (nh : Int32) (ns : (Nat → Int32)) (nk : (Nat → Int32)) (ne : Int32) (nw : Int32) (na : (Nat → Int32)) (nf : (Nat → Int32)) (nc : Int32) (ng : (Nat → Int32)) (nx : Int64) (p0 : Int32) (p1 : Int32) (res : Int32) (hf : pf_X7_ownReach nr ns p0 p1 = some res) : jMi l yX7_ownReach wsX7_ownReach ({ frames := 0, cells := 0, slots := 0, locals := 0 }) D [(cI, .int), (cL, .long)] [.ref (a 0), .int p0, .int p1] (wM a cI cL nl np nt nr nh ns nk ne nw na nf nc ng nx) res (wM a cI cL nl np nt nr nh ns nk ne nw na nf nc ng nx) := by
  intro sz
  refine Met.ofW (cc := cX7_ownReach) (maxL := 3) (ret := (some .int)) (by decide) rfl ?_
  intro p e s m args below meth c s₁ B hml hv
  obtain ⟨rfl, hsz, hP, hK, hD0, hN⟩ := hv
  have hx := B.exec
  have hb := B.bytes
  have hr := B.returns
  have hts := atoms_spec (ws := wsX7_ownReach) B.pre
  have hown : s.vm.findClass RX7 = some m.cls := findClass_of_methodNamed B.named
  have hlocks := B.notSynchronized
  subst hsz
  have hD := hD0.self (sz := s.heap.size)
  generalize hAe : va_A (wM a cI cL nl np nt nr nh ns nk ne nw na nf nc ng nx) s.heap.size = A at hD ⊢
  have hA : ∀ q : Nat, s.heap.size ≤ q → A q := fun q h => by rw [← hAe]; exact Or.inr h
  have hS : va_S A s.heap s.heap [] := va_S.rf
  have hl := lv_entry ([.ref (a 0), .int p0, .int p1]) (n := 3) (Nat.le_of_ble_eq_true rfl)
  rw [lg_entry_eq]
  generalize (lg_sl ([.ref (a 0), .int p0, .int p1]) ++ List.replicate (3 - (lg_sl ([.ref (a 0), .int p0, .int p1])).length) Slot.unset).toArray = ls at hl ⊢
  have hl : lv_has ls 3 [(0, .ref (a 0)), (1, .int p0), (2, .int p1)] := hl
  have hf : pf_X7_ownReach nr ns p0 p1 = some res := hf
  refine lv_aload_n hx hb dX7_ownReach_0 rfl (lv_at hl 0 rfl) ?_
  refine va_get (D := D) (ci := 6) (v := .ref (a 2)) (C := RX7) (T := TX7) (N := 14) hx hb hts iw_X7_ownReach_X7 hown hK hP 0 rfl rfl 3 (by decide) (hts (.fieldLink RX7 13 "PassedDutiesModel" "reaches" "[I") (by decide +kernel)) (fun _ h9 => h9) rfl dX7_ownReach_1 ?_
  refine lv_bipush (v := 12) hx hb dX7_ownReach_4 (by decide) ?_
  refine lv_aload_n hx hb dX7_ownReach_6 rfl (lv_at hl 0 rfl) ?_
  refine va_get (D := D) (ci := 6) (v := .ref (a 3)) (C := RX7) (T := TX7) (N := 14) hx hb hts iw_X7_ownReach_X7 hown hK hP 0 rfl rfl 5 (by decide) (hts (.fieldLink RX7 16 "PassedDutiesModel" "termsOf" "[I") (by decide +kernel)) (fun _ h9 => h9) rfl dX7_ownReach_7 ?_
  refine lv_iload_n hx hb dX7_ownReach_10 rfl (lv_at hl 1 rfl) ?_
  obtain ⟨hi, hf⟩ := jx_gs hf
  refine va_iald hx hb hK hP 3 0 rfl rfl (jx_ip hi) dX7_ownReach_11 ?_
  clear hi
  refine lv_imul hx hb dX7_ownReach_12 ?_
  refine lv_iload_n hx hb dX7_ownReach_13 rfl (lv_at hl 2 rfl) ?_
  refine lv_iadd hx hb dX7_ownReach_14 ?_
  obtain ⟨hi, hf⟩ := jx_gs hf
  refine va_iald hx hb hK hP 2 0 rfl rfl (jx_ip hi) dX7_ownReach_15 ?_
  clear hi
  have he := jx_eq hf
  subst he
  exact jx_reti hx hb hr hlocks rfl hK hP hD hS dX7_ownReach_16
theorem iw_X7_withReach_X7 : ∀ w ∈ wsX70, w ∈ wsX7_withReach := by decide +kernel
set_option maxHeartbeats 4000000 in
set_option maxRecDepth 100000 in
theorem c_X7_withReach (l : Launch) (D : va_G) (a : Nat → Nat) (cI cL : ClassId) (nl : Int32) (np : (Nat → Int32)) (nt : Int32) (nr : (Nat → Int32)) (nh : Int32) (ns : (Nat → Int32)) (nk : (Nat → Int32)) (ne : Int32) (nw : Int32) (na : (Nat → Int32)) (nf : (Nat → Int32)) (nc : Int32) (ng : (Nat → Int32)) (nx : Int64) (p0 : Int32) (p1 : Int32) (p2 : Int32) (res : Int32) (hf : pf_X7_withReach nr ns nk p0 p1 p2 = some res) : jMi l yX7_withReach wsX7_withReach ({ frames := 1, cells := 0, slots := 0, locals := 22 }) D [(cI, .int), (cL, .long)] [.ref (a 0), .int p0, .int p1, .int p2] (wM a cI cL nl np nt nr nh ns nk ne nw na nf nc ng nx) res (wM a cI cL nl np nt nr nh ns nk ne nw na nf nc ng nx) := by
  intro sz
  refine Met.ofW (cc := cX7_withReach) (maxL := 8) (ret := (some .int)) (by decide) rfl ?_
  intro p e s m args below meth c s₁ B hml hv
  obtain ⟨rfl, hsz, hP, hK, hD0, hN⟩ := hv
  have hx := B.exec
  have hb := B.bytes
  have hr := B.returns
  have hts := atoms_spec (ws := wsX7_withReach) B.pre
  have hown : s.vm.findClass RX7 = some m.cls := findClass_of_methodNamed B.named
  have hlocks := B.notSynchronized
  subst hsz
  have hD := hD0.self (sz := s.heap.size)
  generalize hAe : va_A (wM a cI cL nl np nt nr nh ns nk ne nw na nf nc ng nx) s.heap.size = A at hD ⊢
  have hA : ∀ q : Nat, s.heap.size ≤ q → A q := fun q h => by rw [← hAe]; exact Or.inr h
  have hS : va_S A s.heap s.heap [] := va_S.rf
  have hl := lv_entry ([.ref (a 0), .int p0, .int p1, .int p2]) (n := 8) (Nat.le_of_ble_eq_true rfl)
  rw [lg_entry_eq]
  generalize (lg_sl ([.ref (a 0), .int p0, .int p1, .int p2]) ++ List.replicate (8 - (lg_sl ([.ref (a 0), .int p0, .int p1, .int p2])).length) Slot.unset).toArray = ls at hl ⊢
  have hl : lv_has ls 8 [(0, .ref (a 0)), (1, .int p0), (2, .int p1), (3, .int p2)] := hl
  have hf : pf_X7_withReach nr ns nk p0 p1 p2 = some res := hf
  refine lv_iconst (v := 0) hx hb dX7_withReach_0 (by decide) ?_
  refine lv_istore (lv' := [(4, .int (0 : Int32)), (0, .ref (a 0)), (1, .int p0), (2, .int p1), (3, .int p2)]) hx hb dX7_withReach_1 hl (by decide) rfl (fun ls hl => ?_)
  refine lv_iconst (v := 0) hx hb dX7_withReach_3 (by decide) ?_
  refine lv_istore (lv' := [(5, .int (0 : Int32)), (4, .int (0 : Int32)), (0, .ref (a 0)), (1, .int p0), (2, .int p1), (3, .int p2)]) hx hb dX7_withReach_4 hl (by decide) rfl (fun ls hl => ?_)
  obtain ⟨k2, hf, hkk2⟩ := jx_bs hf
  have hXk2 : ∀ (H : Heap) (locs : List Loc) (ls : Array Slot), va_P D vwCl (wM a cI cL nl np nt nr nh ns nk ne nw na nf nc ng nx) H → va_D A (wM a cI cL nl np nt nr nh ns nk ne nw na nf nc ng nx) → va_S A s.heap H locs → lv_has ls 8 [(0, .ref (a 0)), (1, .int p0), (3, .int p2), (4, .int k2)] → jx_Wi p l e wsX7_withReach ({ frames := 1, cells := 0, slots := 0, locals := 22 }) s m [.ref (a 0), .int p0, .int p1, .int p2] below meth c D [(cI, .int), (cL, .long)] res (wM a cI cL nl np nt nr nh ns nk ne nw na nf nc ng nx) A H locs (F0 m 52 ls []) := by
    clear hf hP hD hS hl
    intro H locs ls hP hD hS hl
    have hf := hkk2
    refine lv_iconst (v := 0) hx hb dX7_withReach_52 (by decide) ?_
    refine lv_istore (lv' := [(5, .int (0 : Int32)), (0, .ref (a 0)), (1, .int p0), (3, .int p2), (4, .int k2)]) hx hb dX7_withReach_53 hl (by decide) rfl (fun ls hl => ?_)
    obtain ⟨k8, hf, hkk8⟩ := jx_bs hf
    have hXk8 : ∀ (H : Heap) (locs : List Loc) (ls : Array Slot), va_P D vwCl (wM a cI cL nl np nt nr nh ns nk ne nw na nf nc ng nx) H → va_D A (wM a cI cL nl np nt nr nh ns nk ne nw na nf nc ng nx) → va_S A s.heap H locs → lv_has ls 8 [(4, .int k8)] → jx_Wi p l e wsX7_withReach ({ frames := 1, cells := 0, slots := 0, locals := 22 }) s m [.ref (a 0), .int p0, .int p1, .int p2] below meth c D [(cI, .int), (cL, .long)] res (wM a cI cL nl np nt nr nh ns nk ne nw na nf nc ng nx) A H locs (F0 m 160 ls []) := by
      clear hf hP hD hS hl
      intro H locs ls hP hD hS hl
      have hf := hkk8
      refine lv_iload hx hb dX7_withReach_160 (lv_at hl 0 rfl) ?_
      have he := jx_eq hf
      subst he
      exact jx_reti hx hb hr hlocks rfl hK hP hD hS dX7_withReach_162
    have hLk8 : ∀ (n : Nat) (s7 : (Int32 × Int32)) (H : Heap) (locs : List Loc) (ls : Array Slot), jx_iter (pf_X7_withReach_s2 nk p0 p2) n s7 = some k8 → va_P D vwCl (wM a cI cL nl np nt nr nh ns nk ne nw na nf nc ng nx) H → va_D A (wM a cI cL nl np nt nr nh ns nk ne nw na nf nc ng nx) → va_S A s.heap H locs → lv_has ls 8 [(0, .ref (a 0)), (1, .int p0), (3, .int p2), (4, .int s7.1), (5, .int s7.2)] → jx_Wi p l e wsX7_withReach ({ frames := 1, cells := 0, slots := 0, locals := 22 }) s m [.ref (a 0), .int p0, .int p1, .int p2] below meth c D [(cI, .int), (cL, .long)] res (wM a cI cL nl np nt nr nh ns nk ne nw na nf nc ng nx) A H locs (F0 m 55 ls []) := by
      clear hf hP hD hS hl
      intro n
      induction n with
      | zero => intro s7 _ _ _ hf; cases hf
      | succ n ihk8 =>
        intro s7 H locs ls hf hP hD hS hl
        obtain ⟨q9, hf, hgk8⟩ := jx_bs hf
        refine lv_iload hx hb dX7_withReach_55 (lv_at hl 4 rfl) ?_
        refine lv_iload hx hb dX7_withReach_57 (lv_at hl 3 rfl) ?_
        refine lv_icmp_eq (tgt := 160) hx hb dX7_withReach_59 (by decide) (fun hq => ?_) (fun hq => ?_)
        · replace hf := jx_pos hq hf
          have he := jx_eq hf
          subst he
          have he : _ = k8 := jx_eq hgk8
          subst he
          exact hXk8 _ _ _ hP hD hS (lv_sub hl [3] rfl)
        · replace hf := jx_neg hq hf
          refine lv_iload hx hb dX7_withReach_62 (lv_at hl 3 rfl) ?_
          refine lv_istore (lv' := [(5, .int s7.1), (0, .ref (a 0)), (1, .int p0), (3, .int p2), (4, .int s7.1)]) hx hb dX7_withReach_64 hl (by decide) rfl (fun ls hl => ?_)
          refine lv_iconst (v := 0) hx hb dX7_withReach_66 (by decide) ?_
          refine lv_istore (lv' := [(6, .int (0 : Int32)), (5, .int s7.1), (0, .ref (a 0)), (1, .int p0), (3, .int p2), (4, .int s7.1)]) hx hb dX7_withReach_67 hl (by decide) rfl (fun ls hl => ?_)
          obtain ⟨k11, hf, hkk11⟩ := jx_bs hf
          have hXk11 : ∀ (H : Heap) (locs : List Loc) (ls : Array Slot), va_P D vwCl (wM a cI cL nl np nt nr nh ns nk ne nw na nf nc ng nx) H → va_D A (wM a cI cL nl np nt nr nh ns nk ne nw na nf nc ng nx) → va_S A s.heap H locs → lv_has ls 8 [(0, .ref (a 0)), (1, .int p0), (3, .int p2), (4, .int k11), (5, .int s7.1)] → jx_Wi p l e wsX7_withReach ({ frames := 1, cells := 0, slots := 0, locals := 22 }) s m [.ref (a 0), .int p0, .int p1, .int p2] below meth c D [(cI, .int), (cL, .long)] res (wM a cI cL nl np nt nr nh ns nk ne nw na nf nc ng nx) A H locs (F0 m 157 ls []) := by
            clear hf hP hD hS hl
            intro H locs ls hP hD hS hl
            have hf := hkk11
            refine lv_goto (tgt := 55) hx hb dX7_withReach_157 (by decide) ?_
            have he := jx_eq hf
            subst he
            exact ihk8 (k11, s7.1) _ _ _ hgk8 hP hD hS (lv_sub hl [0, 1, 2, 3, 4] rfl)
          have hLk11 : ∀ (n : Nat) (s10 : (Int32 × Int32)) (H : Heap) (locs : List Loc) (ls : Array Slot), jx_iter (pf_X7_withReach_s3 nk p0 p2 s7) n s10 = some k11 → va_P D vwCl (wM a cI cL nl np nt nr nh ns nk ne nw na nf nc ng nx) H → va_D A (wM a cI cL nl np nt nr nh ns nk ne nw na nf nc ng nx) → va_S A s.heap H locs → lv_has ls 8 [(0, .ref (a 0)), (1, .int p0), (3, .int p2), (4, .int s10.1), (5, .int s7.1), (6, .int s10.2)] → jx_Wi p l e wsX7_withReach ({ frames := 1, cells := 0, slots := 0, locals := 22 }) s m [.ref (a 0), .int p0, .int p1, .int p2] below meth c D [(cI, .int), (cL, .long)] res (wM a cI cL nl np nt nr nh ns nk ne nw na nf nc ng nx) A H locs (F0 m 69 ls []) := by
            clear hf hP hD hS hl
            intro n
            induction n with
            | zero => intro s10 _ _ _ hf; cases hf
            | succ n ihk11 =>
              intro s10 H locs ls hf hP hD hS hl
              obtain ⟨q12, hf, hgk11⟩ := jx_bs hf
              refine lv_iload hx hb dX7_withReach_69 (lv_at hl 5 rfl) ?_
              refine lv_bipush (v := 64) hx hb dX7_withReach_71 (by decide) ?_
              refine lv_icmp_ge (tgt := 157) hx hb dX7_withReach_73 (by decide) (fun hq => ?_) (fun hq => ?_)
              · replace hf := jx_pos hq hf
                have he := jx_eq hf
                subst he
                have he : _ = k11 := jx_eq hgk11
                subst he
                exact hXk11 _ _ _ hP hD hS (lv_sub hl [0, 1, 2, 3, 4] rfl)
              · replace hf := jx_neg hq hf
                refine lv_iload_n hx hb dX7_withReach_76 rfl (lv_at hl 1 rfl) ?_
                refine lv_iload hx hb dX7_withReach_77 (lv_at hl 5 rfl) ?_
                refine lv_bipush (v := 8) hx hb dX7_withReach_79 (by decide) ?_
                refine lv_idiv hx hb dX7_withReach_81 (by decide) ?_
                obtain ⟨r13, hc, hf⟩ := jx_bs hf
                refine jx_ki (wr := [((a 0), .inr (6, [.int nl, .ref (a 1), .int nt, .ref (a 2), .int nh, .ref (a 3), .ref (a 4), .int ne, .int nw, .ref (a 5), .ref (a 6), .int nc, .ref (a 7), .long nx])), ((a 1), .inl (cI, 24, .inl np)), ((a 2), .inl (cI, 108, .inl nr)), ((a 3), .inl (cI, 8, .inl ns)), ((a 4), .inl (cI, 64, .inl nk)), ((a 5), .inl (cI, 8, .inl na)), ((a 6), .inl (cI, 8, .inl nf)), ((a 7), .inl (cI, 48, .inl ng))]) (ws2 := (wM a cI cL nl np nt nr nh ns nk ne nw na nf nc ng nx)) (jx_runS (As := [.int p0, .int (s10.2 / (8 : Int32))]) (rest := []) ⟨hx, hb, hml, hown, hts⟩ (c_X7_has l D a cI cL p0 (s10.2 / (8 : Int32)) r13 hc _) (va_cwS 2 hts gX7_withReach_X7_has rfl rfl rfl (by decide +kernel) ⟨Nat.le_of_ble_eq_true rfl, Nat.le_of_ble_eq_true rfl⟩) hK hN hP hD [] rfl (by decide) rfl hl.1 rfl (Nat.le_of_ble_eq_true rfl) dX7_withReach_82 ⟨Nat.le_of_ble_eq_true rfl, Nat.le_of_ble_eq_true rfl⟩) hP hD hS hA [] [0, 1, 2, 3, 4, 5, 6, 7] [0, 1, 2, 3, 4, 5, 6, 7] rfl rfl (by decide) (by decide) rfl (by decide) (fun H locs hP hD hS => ?_)
                clear hc
                obtain ⟨j14, hf, hkj14⟩ := jx_bs hf
                have hJj14 : ∀ (H : Heap) (locs : List Loc) (ls : Array Slot), va_P D vwCl (wM a cI cL nl np nt nr nh ns nk ne nw na nf nc ng nx) H → va_D A (wM a cI cL nl np nt nr nh ns nk ne nw na nf nc ng nx) → va_S A s.heap H locs → lv_has ls 8 [(0, .ref (a 0)), (1, .int p0), (3, .int p2), (4, .int s10.1), (5, .int s7.1), (6, .int s10.2)] → jx_Wi p l e wsX7_withReach ({ frames := 1, cells := 0, slots := 0, locals := 22 }) s m [.ref (a 0), .int p0, .int p1, .int p2] below meth c D [(cI, .int), (cL, .long)] res (wM a cI cL nl np nt nr nh ns nk ne nw na nf nc ng nx) A H locs (F0 m 128 ls [.int j14]) := by
                  clear hf hP hD hS hl
                  intro H locs ls hP hD hS hl
                  have hf := hkj14
                  refine lv_istore (lv' := [(7, .int j14), (0, .ref (a 0)), (1, .int p0), (3, .int p2), (4, .int s10.1), (5, .int s7.1), (6, .int s10.2)]) hx hb dX7_withReach_128 hl (by decide) rfl (fun ls hl => ?_)
                  refine lv_iload hx hb dX7_withReach_130 (lv_at hl 4 rfl) ?_
                  refine lv_iload hx hb dX7_withReach_132 (lv_at hl 0 rfl) ?_
                  obtain ⟨j16, hf, hkj16⟩ := jx_bs hf
                  have hJj16 : ∀ (H : Heap) (locs : List Loc) (ls : Array Slot), va_P D vwCl (wM a cI cL nl np nt nr nh ns nk ne nw na nf nc ng nx) H → va_D A (wM a cI cL nl np nt nr nh ns nk ne nw na nf nc ng nx) → va_S A s.heap H locs → lv_has ls 8 [(0, .ref (a 0)), (1, .int p0), (3, .int p2), (5, .int s7.1), (6, .int s10.2)] → jx_Wi p l e wsX7_withReach ({ frames := 1, cells := 0, slots := 0, locals := 22 }) s m [.ref (a 0), .int p0, .int p1, .int p2] below meth c D [(cI, .int), (cL, .long)] res (wM a cI cL nl np nt nr nh ns nk ne nw na nf nc ng nx) A H locs (F0 m 148 ls [.int j16, .int s10.1]) := by
                    clear hf hP hD hS hl
                    intro H locs ls hP hD hS hl
                    have hf := hkj16
                    refine lv_ior hx hb dX7_withReach_148 ?_
                    refine lv_istore (lv' := [(4, .int (s10.1 ||| j16)), (0, .ref (a 0)), (1, .int p0), (3, .int p2), (5, .int s7.1), (6, .int s10.2)]) hx hb dX7_withReach_149 hl (by decide) rfl (fun ls hl => ?_)
                    refine lv_iinc (v := (s10.2 + (1 : Int32))) (lv' := [(6, .int (s10.2 + (1 : Int32))), (4, .int (s10.1 ||| j16)), (0, .ref (a 0)), (1, .int p0), (3, .int p2), (5, .int s7.1)]) hx hb dX7_withReach_151 hl (k := 5) rfl rfl (by decide) rfl (fun ls hl => ?_)
                    refine lv_goto (tgt := 69) hx hb dX7_withReach_154 (by decide) ?_
                    have he := jx_eq hf
                    subst he
                    exact ihk11 ((s10.1 ||| j16), (s10.2 + (1 : Int32))) _ _ _ hgk11 hP hD hS (lv_sub hl [2, 3, 4, 1, 5, 0] rfl)
                  refine lv_if_eq (tgt := 147) hx hb dX7_withReach_134 (by decide) (fun hq => ?_) (fun hq => ?_)
                  · replace hf := jx_pos hq hf
                    refine lv_iconst (v := 0) hx hb dX7_withReach_147 (by decide) ?_
                    have he := jx_eq hf
                    subst he
                    exact hJj16 _ _ _ hP hD hS (lv_sub hl [1, 2, 3, 5, 6] rfl)
                  · replace hf := jx_neg hq hf
                    refine lv_iconst (v := 1) hx hb dX7_withReach_137 (by decide) ?_
                    refine lv_iload hx hb dX7_withReach_138 (lv_at hl 6 rfl) ?_
                    refine lv_bipush (v := 8) hx hb dX7_withReach_140 (by decide) ?_
                    refine lv_idiv hx hb dX7_withReach_142 (by decide) ?_
                    refine lv_ishl hx hb dX7_withReach_143 ?_
                    refine lv_goto (tgt := 148) hx hb dX7_withReach_144 (by decide) ?_
                    have he := jx_eq hf
                    subst he
                    exact hJj16 _ _ _ hP hD hS (lv_sub hl [1, 2, 3, 5, 6] rfl)
                refine lv_if_eq (tgt := 127) hx hb dX7_withReach_85 (by decide) (fun hq => ?_) (fun hq => ?_)
                · replace hf := jx_pos hq hf
                  refine lv_iconst (v := 0) hx hb dX7_withReach_127 (by decide) ?_
                  have he := jx_eq hf
                  subst he
                  exact hJj14 _ _ _ hP hD hS (lv_sub hl [0, 1, 2, 3, 4, 5] rfl)
                · replace hf := jx_neg hq hf
                  refine lv_iload hx hb dX7_withReach_88 (lv_at hl 4 rfl) ?_
                  refine lv_iload hx hb dX7_withReach_90 (lv_at hl 5 rfl) ?_
                  refine lv_bipush (v := 8) hx hb dX7_withReach_92 (by decide) ?_
                  refine lv_irem hx hb dX7_withReach_94 (by decide) ?_
                  obtain ⟨r15, hc, hf⟩ := jx_bs hf
                  refine jx_ki (wr := [((a 0), .inr (6, [.int nl, .ref (a 1), .int nt, .ref (a 2), .int nh, .ref (a 3), .ref (a 4), .int ne, .int nw, .ref (a 5), .ref (a 6), .int nc, .ref (a 7), .long nx])), ((a 1), .inl (cI, 24, .inl np)), ((a 2), .inl (cI, 108, .inl nr)), ((a 3), .inl (cI, 8, .inl ns)), ((a 4), .inl (cI, 64, .inl nk)), ((a 5), .inl (cI, 8, .inl na)), ((a 6), .inl (cI, 8, .inl nf)), ((a 7), .inl (cI, 48, .inl ng))]) (ws2 := (wM a cI cL nl np nt nr nh ns nk ne nw na nf nc ng nx)) (jx_runS (As := [.int s7.1, .int (s10.2 - s10.2 / (8 : Int32) * (8 : Int32))]) (rest := []) ⟨hx, hb, hml, hown, hts⟩ (c_X7_has l D a cI cL s7.1 (s10.2 - s10.2 / (8 : Int32) * (8 : Int32)) r15 hc _) (va_cwS 2 hts gX7_withReach_X7_has rfl rfl rfl (by decide +kernel) ⟨Nat.le_of_ble_eq_true rfl, Nat.le_of_ble_eq_true rfl⟩) hK hN hP hD [] rfl (by decide) rfl hl.1 rfl (Nat.le_of_ble_eq_true rfl) dX7_withReach_95 ⟨Nat.le_of_ble_eq_true rfl, Nat.le_of_ble_eq_true rfl⟩) hP hD hS hA [] [0, 1, 2, 3, 4, 5, 6, 7] [0, 1, 2, 3, 4, 5, 6, 7] rfl rfl (by decide) (by decide) rfl (by decide) (fun H locs hP hD hS => ?_)
                  clear hc
                  refine lv_if_eq (tgt := 127) hx hb dX7_withReach_98 (by decide) (fun hq => ?_) (fun hq => ?_)
                  · replace hf := jx_pos hq hf
                    refine lv_iconst (v := 0) hx hb dX7_withReach_127 (by decide) ?_
                    have he := jx_eq hf
                    subst he
                    exact hJj14 _ _ _ hP hD hS (lv_sub hl [0, 1, 2, 3, 4, 5] rfl)
                  · replace hf := jx_neg hq hf
                    refine lv_aload_n hx hb dX7_withReach_101 rfl (lv_at hl 0 rfl) ?_
                    refine va_get (D := D) (ci := 6) (v := .ref (a 4)) (C := RX7) (T := TX7) (N := 14) hx hb hts iw_X7_withReach_X7 hown hK hP 0 rfl rfl 6 (by decide) (hts (.fieldLink RX7 19 "PassedDutiesModel" "kinds" "[I") (by decide +kernel)) (fun _ h9 => h9) rfl dX7_withReach_102 ?_
                    refine lv_iload hx hb dX7_withReach_105 (lv_at hl 5 rfl) ?_
                    obtain ⟨hi, hf⟩ := jx_gs hf
                    refine va_iald hx hb hK hP 4 0 rfl rfl (jx_ip hi) dX7_withReach_107 ?_
                    clear hi
                    refine lv_iconst (v := -1) hx hb dX7_withReach_108 (by decide) ?_
                    refine lv_icmp_eq (tgt := 127) hx hb dX7_withReach_109 (by decide) (fun hq => ?_) (fun hq => ?_)
                    · replace hf := jx_pos hq hf
                      refine lv_iconst (v := 0) hx hb dX7_withReach_127 (by decide) ?_
                      have he := jx_eq hf
                      subst he
                      exact hJj14 _ _ _ hP hD hS (lv_sub hl [0, 1, 2, 3, 4, 5] rfl)
                    · replace hf := jx_neg hq hf
                      refine lv_aload_n hx hb dX7_withReach_112 rfl (lv_at hl 0 rfl) ?_
                      refine va_get (D := D) (ci := 6) (v := .ref (a 4)) (C := RX7) (T := TX7) (N := 14) hx hb hts iw_X7_withReach_X7 hown hK hP 0 rfl rfl 6 (by decide) (hts (.fieldLink RX7 19 "PassedDutiesModel" "kinds" "[I") (by decide +kernel)) (fun _ h9 => h9) rfl dX7_withReach_113 ?_
                      refine lv_iload hx hb dX7_withReach_116 (lv_at hl 5 rfl) ?_
                      obtain ⟨hi, hf⟩ := jx_gs hf
                      refine va_iald hx hb hK hP 4 0 rfl rfl (jx_ip hi) dX7_withReach_118 ?_
                      clear hi
                      refine lv_iload_n hx hb dX7_withReach_119 rfl (lv_at hl 2 rfl) ?_
                      refine lv_icmp_ge (tgt := 127) hx hb dX7_withReach_120 (by decide) (fun hq => ?_) (fun hq => ?_)
                      · replace hf := jx_pos hq hf
                        refine lv_iconst (v := 0) hx hb dX7_withReach_127 (by decide) ?_
                        have he := jx_eq hf
                        subst he
                        exact hJj14 _ _ _ hP hD hS (lv_sub hl [0, 1, 2, 3, 4, 5] rfl)
                      · replace hf := jx_neg hq hf
                        refine lv_iconst (v := 1) hx hb dX7_withReach_123 (by decide) ?_
                        refine lv_goto (tgt := 128) hx hb dX7_withReach_124 (by decide) ?_
                        have he := jx_eq hf
                        subst he
                        exact hJj14 _ _ _ hP hD hS (lv_sub hl [0, 1, 2, 3, 4, 5] rfl)
          exact hLk11 jx_F (s7.1, (0 : Int32)) _ _ _ hf hP hD hS (lv_sub hl [2, 3, 4, 5, 1, 0] rfl)
    exact hLk8 jx_F (k2, (0 : Int32)) _ _ _ hf hP hD hS (lv_sub hl [1, 2, 3, 4, 0] rfl)
  have hLk2 : ∀ (n : Nat) (s1 : (Int32 × Int32)) (H : Heap) (locs : List Loc) (ls : Array Slot), jx_iter (pf_X7_withReach_s1 nr ns p0 p1 p2) n s1 = some k2 → va_P D vwCl (wM a cI cL nl np nt nr nh ns nk ne nw na nf nc ng nx) H → va_D A (wM a cI cL nl np nt nr nh ns nk ne nw na nf nc ng nx) → va_S A s.heap H locs → lv_has ls 8 [(0, .ref (a 0)), (1, .int p0), (2, .int p1), (3, .int p2), (4, .int s1.1), (5, .int s1.2)] → jx_Wi p l e wsX7_withReach ({ frames := 1, cells := 0, slots := 0, locals := 22 }) s m [.ref (a 0), .int p0, .int p1, .int p2] below meth c D [(cI, .int), (cL, .long)] res (wM a cI cL nl np nt nr nh ns nk ne nw na nf nc ng nx) A H locs (F0 m 6 ls []) := by
    clear hf hP hD hS hl
    intro n
    induction n with
    | zero => intro s1 _ _ _ hf; cases hf
    | succ n ihk2 =>
      intro s1 H locs ls hf hP hD hS hl
      obtain ⟨q3, hf, hgk2⟩ := jx_bs hf
      refine lv_iload hx hb dX7_withReach_6 (lv_at hl 5 rfl) ?_
      refine lv_bipush (v := 8) hx hb dX7_withReach_8 (by decide) ?_
      refine lv_icmp_ge (tgt := 52) hx hb dX7_withReach_10 (by decide) (fun hq => ?_) (fun hq => ?_)
      · replace hf := jx_pos hq hf
        have he := jx_eq hf
        subst he
        have he : _ = k2 := jx_eq hgk2
        subst he
        exact hXk2 _ _ _ hP hD hS (lv_sub hl [0, 1, 3, 4] rfl)
      · replace hf := jx_neg hq hf
        refine lv_iload hx hb dX7_withReach_13 (lv_at hl 4 rfl) ?_
        refine lv_iload_n hx hb dX7_withReach_15 rfl (lv_at hl 1 rfl) ?_
        refine lv_iload hx hb dX7_withReach_16 (lv_at hl 5 rfl) ?_
        obtain ⟨r4, hc, hf⟩ := jx_bs hf
        refine jx_ki (wr := [((a 0), .inr (6, [.int nl, .ref (a 1), .int nt, .ref (a 2), .int nh, .ref (a 3), .ref (a 4), .int ne, .int nw, .ref (a 5), .ref (a 6), .int nc, .ref (a 7), .long nx])), ((a 1), .inl (cI, 24, .inl np)), ((a 2), .inl (cI, 108, .inl nr)), ((a 3), .inl (cI, 8, .inl ns)), ((a 4), .inl (cI, 64, .inl nk)), ((a 5), .inl (cI, 8, .inl na)), ((a 6), .inl (cI, 8, .inl nf)), ((a 7), .inl (cI, 48, .inl ng))]) (ws2 := (wM a cI cL nl np nt nr nh ns nk ne nw na nf nc ng nx)) (jx_runS (As := [.int p0, .int s1.2]) (rest := [.int s1.1]) ⟨hx, hb, hml, hown, hts⟩ (c_X7_has l D a cI cL p0 s1.2 r4 hc _) (va_cwS 2 hts gX7_withReach_X7_has rfl rfl rfl (by decide +kernel) ⟨Nat.le_of_ble_eq_true rfl, Nat.le_of_ble_eq_true rfl⟩) hK hN hP hD [] rfl (by decide) rfl hl.1 rfl (Nat.le_of_ble_eq_true rfl) dX7_withReach_18 ⟨Nat.le_of_ble_eq_true rfl, Nat.le_of_ble_eq_true rfl⟩) hP hD hS hA [] [0, 1, 2, 3, 4, 5, 6, 7] [0, 1, 2, 3, 4, 5, 6, 7] rfl rfl (by decide) (by decide) rfl (by decide) (fun H locs hP hD hS => ?_)
        clear hc
        obtain ⟨j5, hf, hkj5⟩ := jx_bs hf
        have hJj5 : ∀ (H : Heap) (locs : List Loc) (ls : Array Slot), va_P D vwCl (wM a cI cL nl np nt nr nh ns nk ne nw na nf nc ng nx) H → va_D A (wM a cI cL nl np nt nr nh ns nk ne nw na nf nc ng nx) → va_S A s.heap H locs → lv_has ls 8 [(0, .ref (a 0)), (1, .int p0), (2, .int p1), (3, .int p2), (5, .int s1.2)] → jx_Wi p l e wsX7_withReach ({ frames := 1, cells := 0, slots := 0, locals := 22 }) s m [.ref (a 0), .int p0, .int p1, .int p2] below meth c D [(cI, .int), (cL, .long)] res (wM a cI cL nl np nt nr nh ns nk ne nw na nf nc ng nx) A H locs (F0 m 43 ls [.int j5, .int s1.1]) := by
          clear hf hP hD hS hl
          intro H locs ls hP hD hS hl
          have hf := hkj5
          refine lv_ior hx hb dX7_withReach_43 ?_
          refine lv_istore (lv' := [(4, .int (s1.1 ||| j5)), (0, .ref (a 0)), (1, .int p0), (2, .int p1), (3, .int p2), (5, .int s1.2)]) hx hb dX7_withReach_44 hl (by decide) rfl (fun ls hl => ?_)
          refine lv_iinc (v := (s1.2 + (1 : Int32))) (lv' := [(5, .int (s1.2 + (1 : Int32))), (4, .int (s1.1 ||| j5)), (0, .ref (a 0)), (1, .int p0), (2, .int p1), (3, .int p2)]) hx hb dX7_withReach_46 hl (k := 5) rfl rfl (by decide) rfl (fun ls hl => ?_)
          refine lv_goto (tgt := 6) hx hb dX7_withReach_49 (by decide) ?_
          have he := jx_eq hf
          subst he
          exact ihk2 ((s1.1 ||| j5), (s1.2 + (1 : Int32))) _ _ _ hgk2 hP hD hS (lv_sub hl [2, 3, 4, 5, 1, 0] rfl)
        refine lv_if_eq (tgt := 42) hx hb dX7_withReach_21 (by decide) (fun hq => ?_) (fun hq => ?_)
        · replace hf := jx_pos hq hf
          refine lv_iconst (v := 0) hx hb dX7_withReach_42 (by decide) ?_
          have he := jx_eq hf
          subst he
          exact hJj5 _ _ _ hP hD hS (lv_sub hl [0, 1, 2, 3, 5] rfl)
        · replace hf := jx_neg hq hf
          refine lv_aload_n hx hb dX7_withReach_24 rfl (lv_at hl 0 rfl) ?_
          refine lv_iload hx hb dX7_withReach_25 (lv_at hl 5 rfl) ?_
          refine lv_iload_n hx hb dX7_withReach_27 rfl (lv_at hl 2 rfl) ?_
          obtain ⟨r6, hc, hf⟩ := jx_bs hf
          refine jx_ki (wr := []) (ws2 := (wM a cI cL nl np nt nr nh ns nk ne nw na nf nc ng nx)) (jx_runV (As := [.int s1.2, .int p1]) (rest := [.int s1.1]) ⟨hx, hb, hml, hown, hts⟩ (c_X7_ownReach l D a cI cL nl np nt nr nh ns nk ne nw na nf nc ng nx s1.2 p1 r6 hc _) (cwV 2 hts gX7_withReach_X7_ownReach rfl rfl rfl (by decide +kernel) ⟨Nat.le_of_ble_eq_true rfl, Nat.le_of_ble_eq_true rfl⟩) hK hN hP hD [0, 1, 2, 3, 4, 5, 6, 7] rfl (by decide) 0 6 rfl rfl rfl hl.1 rfl (Nat.le_of_ble_eq_true rfl) dX7_withReach_28 ⟨Nat.le_of_ble_eq_true rfl, Nat.le_of_ble_eq_true rfl⟩) hP hD hS hA [0, 1, 2, 3, 4, 5, 6, 7] [] [0, 1, 2, 3, 4, 5, 6, 7] rfl rfl (by decide) (by decide) rfl (by decide) (fun H locs hP hD hS => ?_)
          clear hc
          refine lv_iload_n hx hb dX7_withReach_31 rfl (lv_at hl 3 rfl) ?_
          refine lv_icmp_ne (tgt := 42) hx hb dX7_withReach_32 (by decide) (fun hq => ?_) (fun hq => ?_)
          · replace hf := jx_pos hq hf
            refine lv_iconst (v := 0) hx hb dX7_withReach_42 (by decide) ?_
            have he := jx_eq hf
            subst he
            exact hJj5 _ _ _ hP hD hS (lv_sub hl [0, 1, 2, 3, 5] rfl)
          · replace hf := jx_negn hq hf
            refine lv_iconst (v := 1) hx hb dX7_withReach_35 (by decide) ?_
            refine lv_iload hx hb dX7_withReach_36 (lv_at hl 5 rfl) ?_
            refine lv_ishl hx hb dX7_withReach_38 ?_
            refine lv_goto (tgt := 43) hx hb dX7_withReach_39 (by decide) ?_
            have he := jx_eq hf
            subst he
            exact hJj5 _ _ _ hP hD hS (lv_sub hl [0, 1, 2, 3, 5] rfl)
  exact hLk2 jx_F ((0 : Int32), (0 : Int32)) _ _ _ hf hP hD hS (lv_sub hl [2, 3, 4, 5, 1, 0] rfl)
set_option maxHeartbeats 4000000 in
set_option maxRecDepth 100000 in
theorem c_X7_heldBy (l : Launch) (D : va_G) (a : Nat → Nat) (cI cL : ClassId) (nl : Int32) (np : (Nat → Int32)) (nt : Int32) (nr : (Nat → Int32)) (nh : Int32) (ns : (Nat → Int32)) (nk : (Nat → Int32)) (ne : Int32) (nw : Int32) (na : (Nat → Int32)) (nf : (Nat → Int32)) (nc : Int32) (ng : (Nat → Int32)) (nx : Int64) (p0 : Int32) (p1 : Int32) (res : Int32) (hf : pf_X7_heldBy nr ns nk p0 p1 = some res) : jMi l yX7_heldBy wsX7_heldBy ({ frames := 2, cells := 0, slots := 0, locals := 49 }) D [(cI, .int), (cL, .long)] [.ref (a 0), .int p0, .int p1] (wM a cI cL nl np nt nr nh ns nk ne nw na nf nc ng nx) res (wM a cI cL nl np nt nr nh ns nk ne nw na nf nc ng nx) := by
  intro sz
  refine Met.ofW (cc := cX7_heldBy) (maxL := 3) (ret := (some .int)) (by decide) rfl ?_
  intro p e s m args below meth c s₁ B hml hv
  obtain ⟨rfl, hsz, hP, hK, hD0, hN⟩ := hv
  have hx := B.exec
  have hb := B.bytes
  have hr := B.returns
  have hts := atoms_spec (ws := wsX7_heldBy) B.pre
  have hown : s.vm.findClass RX7 = some m.cls := findClass_of_methodNamed B.named
  have hlocks := B.notSynchronized
  subst hsz
  have hD := hD0.self (sz := s.heap.size)
  generalize hAe : va_A (wM a cI cL nl np nt nr nh ns nk ne nw na nf nc ng nx) s.heap.size = A at hD ⊢
  have hA : ∀ q : Nat, s.heap.size ≤ q → A q := fun q h => by rw [← hAe]; exact Or.inr h
  have hS : va_S A s.heap s.heap [] := va_S.rf
  have hl := lv_entry ([.ref (a 0), .int p0, .int p1]) (n := 3) (Nat.le_of_ble_eq_true rfl)
  rw [lg_entry_eq]
  generalize (lg_sl ([.ref (a 0), .int p0, .int p1]) ++ List.replicate (3 - (lg_sl ([.ref (a 0), .int p0, .int p1])).length) Slot.unset).toArray = ls at hl ⊢
  have hl : lv_has ls 3 [(0, .ref (a 0)), (1, .int p0), (2, .int p1)] := hl
  have hf : pf_X7_heldBy nr ns nk p0 p1 = some res := hf
  refine lv_aload_n hx hb dX7_heldBy_0 rfl (lv_at hl 0 rfl) ?_
  refine lv_iload_n hx hb dX7_heldBy_1 rfl (lv_at hl 1 rfl) ?_
  refine lv_iload_n hx hb dX7_heldBy_2 rfl (lv_at hl 2 rfl) ?_
  refine lv_iconst (v := 1) hx hb dX7_heldBy_3 (by decide) ?_
  obtain ⟨r1, hc, hf⟩ := jx_bs hf
  refine jx_ki (wr := []) (ws2 := (wM a cI cL nl np nt nr nh ns nk ne nw na nf nc ng nx)) (jx_runV (As := [.int p0, .int p1, .int (1 : Int32)]) (rest := []) ⟨hx, hb, hml, hown, hts⟩ (c_X7_withReach l D a cI cL nl np nt nr nh ns nk ne nw na nf nc ng nx p0 p1 (1 : Int32) r1 hc _) (cwV 3 hts gX7_heldBy_X7_withReach rfl rfl rfl (by decide +kernel) ⟨Nat.le_of_ble_eq_true rfl, Nat.le_of_ble_eq_true rfl⟩) hK hN hP hD [0, 1, 2, 3, 4, 5, 6, 7] rfl (by decide) 0 6 rfl rfl rfl hl.1 rfl (Nat.le_of_ble_eq_true rfl) dX7_heldBy_4 ⟨Nat.le_of_ble_eq_true rfl, Nat.le_of_ble_eq_true rfl⟩) hP hD hS hA [0, 1, 2, 3, 4, 5, 6, 7] [] [0, 1, 2, 3, 4, 5, 6, 7] rfl rfl (by decide) (by decide) rfl (by decide) (fun H locs hP hD hS => ?_)
  clear hc
  refine lv_aload_n hx hb dX7_heldBy_7 rfl (lv_at hl 0 rfl) ?_
  refine lv_iload_n hx hb dX7_heldBy_8 rfl (lv_at hl 1 rfl) ?_
  refine lv_iload_n hx hb dX7_heldBy_9 rfl (lv_at hl 2 rfl) ?_
  refine lv_iconst (v := 2) hx hb dX7_heldBy_10 (by decide) ?_
  obtain ⟨r2, hc, hf⟩ := jx_bs hf
  refine jx_ki (wr := []) (ws2 := (wM a cI cL nl np nt nr nh ns nk ne nw na nf nc ng nx)) (jx_runV (As := [.int p0, .int p1, .int (2 : Int32)]) (rest := [.int r1]) ⟨hx, hb, hml, hown, hts⟩ (c_X7_withReach l D a cI cL nl np nt nr nh ns nk ne nw na nf nc ng nx p0 p1 (2 : Int32) r2 hc _) (cwV 3 hts gX7_heldBy_X7_withReach rfl rfl rfl (by decide +kernel) ⟨Nat.le_of_ble_eq_true rfl, Nat.le_of_ble_eq_true rfl⟩) hK hN hP hD [0, 1, 2, 3, 4, 5, 6, 7] rfl (by decide) 0 6 rfl rfl rfl hl.1 rfl (Nat.le_of_ble_eq_true rfl) dX7_heldBy_11 ⟨Nat.le_of_ble_eq_true rfl, Nat.le_of_ble_eq_true rfl⟩) hP hD hS hA [0, 1, 2, 3, 4, 5, 6, 7] [] [0, 1, 2, 3, 4, 5, 6, 7] rfl rfl (by decide) (by decide) rfl (by decide) (fun H locs hP hD hS => ?_)
  clear hc
  refine lv_ior hx hb dX7_heldBy_14 ?_
  refine lv_aload_n hx hb dX7_heldBy_15 rfl (lv_at hl 0 rfl) ?_
  refine lv_iload_n hx hb dX7_heldBy_16 rfl (lv_at hl 1 rfl) ?_
  refine lv_iload_n hx hb dX7_heldBy_17 rfl (lv_at hl 2 rfl) ?_
  refine lv_iconst (v := 3) hx hb dX7_heldBy_18 (by decide) ?_
  obtain ⟨r3, hc, hf⟩ := jx_bs hf
  refine jx_ki (wr := []) (ws2 := (wM a cI cL nl np nt nr nh ns nk ne nw na nf nc ng nx)) (jx_runV (As := [.int p0, .int p1, .int (3 : Int32)]) (rest := [.int (r1 ||| r2)]) ⟨hx, hb, hml, hown, hts⟩ (c_X7_withReach l D a cI cL nl np nt nr nh ns nk ne nw na nf nc ng nx p0 p1 (3 : Int32) r3 hc _) (cwV 3 hts gX7_heldBy_X7_withReach rfl rfl rfl (by decide +kernel) ⟨Nat.le_of_ble_eq_true rfl, Nat.le_of_ble_eq_true rfl⟩) hK hN hP hD [0, 1, 2, 3, 4, 5, 6, 7] rfl (by decide) 0 6 rfl rfl rfl hl.1 rfl (Nat.le_of_ble_eq_true rfl) dX7_heldBy_19 ⟨Nat.le_of_ble_eq_true rfl, Nat.le_of_ble_eq_true rfl⟩) hP hD hS hA [0, 1, 2, 3, 4, 5, 6, 7] [] [0, 1, 2, 3, 4, 5, 6, 7] rfl rfl (by decide) (by decide) rfl (by decide) (fun H locs hP hD hS => ?_)
  clear hc
  refine lv_ior hx hb dX7_heldBy_22 ?_
  have he := jx_eq hf
  subst he
  exact jx_reti hx hb hr hlocks rfl hK hP hD hS dX7_heldBy_23
theorem iw_X7_actsOf_X7 : ∀ w ∈ wsX70, w ∈ wsX7_actsOf := by decide +kernel
set_option maxHeartbeats 4000000 in
set_option maxRecDepth 100000 in
theorem c_X7_actsOf (l : Launch) (D : va_G) (a : Nat → Nat) (cI cL : ClassId) (nl : Int32) (np : (Nat → Int32)) (nt : Int32) (nr : (Nat → Int32)) (nh : Int32) (ns : (Nat → Int32)) (nk : (Nat → Int32)) (ne : Int32) (nw : Int32) (na : (Nat → Int32)) (nf : (Nat → Int32)) (nc : Int32) (ng : (Nat → Int32)) (nx : Int64) (p0 : Int32) (p1 : Int32) (res : Int32) (hf : pf_X7_actsOf nr nh ns nk p0 p1 = some res) : jMi l yX7_actsOf wsX7_actsOf ({ frames := 3, cells := 0, slots := 0, locals := 71 }) D [(cI, .int), (cL, .long)] [.ref (a 0), .int p0, .int p1] (wM a cI cL nl np nt nr nh ns nk ne nw na nf nc ng nx) res (wM a cI cL nl np nt nr nh ns nk ne nw na nf nc ng nx) := by
  intro sz
  refine Met.ofW (cc := cX7_actsOf) (maxL := 8) (ret := (some .int)) (by decide) rfl ?_
  intro p e s m args below meth c s₁ B hml hv
  obtain ⟨rfl, hsz, hP, hK, hD0, hN⟩ := hv
  have hx := B.exec
  have hb := B.bytes
  have hr := B.returns
  have hts := atoms_spec (ws := wsX7_actsOf) B.pre
  have hown : s.vm.findClass RX7 = some m.cls := findClass_of_methodNamed B.named
  have hlocks := B.notSynchronized
  subst hsz
  have hD := hD0.self (sz := s.heap.size)
  generalize hAe : va_A (wM a cI cL nl np nt nr nh ns nk ne nw na nf nc ng nx) s.heap.size = A at hD ⊢
  have hA : ∀ q : Nat, s.heap.size ≤ q → A q := fun q h => by rw [← hAe]; exact Or.inr h
  have hS : va_S A s.heap s.heap [] := va_S.rf
  have hl := lv_entry ([.ref (a 0), .int p0, .int p1]) (n := 8) (Nat.le_of_ble_eq_true rfl)
  rw [lg_entry_eq]
  generalize (lg_sl ([.ref (a 0), .int p0, .int p1]) ++ List.replicate (8 - (lg_sl ([.ref (a 0), .int p0, .int p1])).length) Slot.unset).toArray = ls at hl ⊢
  have hl : lv_has ls 8 [(0, .ref (a 0)), (1, .int p0), (2, .int p1)] := hl
  have hf : pf_X7_actsOf nr nh ns nk p0 p1 = some res := hf
  refine lv_iconst (v := 0) hx hb dX7_actsOf_0 (by decide) ?_
  refine lv_istore_n (lv' := [(3, .int (0 : Int32)), (0, .ref (a 0)), (1, .int p0), (2, .int p1)]) hx hb dX7_actsOf_1 rfl hl (by decide) rfl (fun ls hl => ?_)
  refine lv_iconst (v := 0) hx hb dX7_actsOf_2 (by decide) ?_
  refine lv_istore (lv' := [(4, .int (0 : Int32)), (3, .int (0 : Int32)), (0, .ref (a 0)), (1, .int p0), (2, .int p1)]) hx hb dX7_actsOf_3 hl (by decide) rfl (fun ls hl => ?_)
  obtain ⟨k2, hf, hkk2⟩ := jx_bs hf
  have hXk2 : ∀ (H : Heap) (locs : List Loc) (ls : Array Slot), va_P D vwCl (wM a cI cL nl np nt nr nh ns nk ne nw na nf nc ng nx) H → va_D A (wM a cI cL nl np nt nr nh ns nk ne nw na nf nc ng nx) → va_S A s.heap H locs → lv_has ls 8 [(3, .int k2)] → jx_Wi p l e wsX7_actsOf ({ frames := 3, cells := 0, slots := 0, locals := 71 }) s m [.ref (a 0), .int p0, .int p1] below meth c D [(cI, .int), (cL, .long)] res (wM a cI cL nl np nt nr nh ns nk ne nw na nf nc ng nx) A H locs (F0 m 106 ls []) := by
    clear hf hP hD hS hl
    intro H locs ls hP hD hS hl
    have hf := hkk2
    refine lv_iload_n hx hb dX7_actsOf_106 rfl (lv_at hl 0 rfl) ?_
    have he := jx_eq hf
    subst he
    exact jx_reti hx hb hr hlocks rfl hK hP hD hS dX7_actsOf_107
  have hLk2 : ∀ (n : Nat) (s1 : (Int32 × Int32)) (H : Heap) (locs : List Loc) (ls : Array Slot), jx_iter (pf_X7_actsOf_s1 nr nh ns nk p0 p1) n s1 = some k2 → va_P D vwCl (wM a cI cL nl np nt nr nh ns nk ne nw na nf nc ng nx) H → va_D A (wM a cI cL nl np nt nr nh ns nk ne nw na nf nc ng nx) → va_S A s.heap H locs → lv_has ls 8 [(0, .ref (a 0)), (1, .int p0), (2, .int p1), (3, .int s1.1), (4, .int s1.2)] → jx_Wi p l e wsX7_actsOf ({ frames := 3, cells := 0, slots := 0, locals := 71 }) s m [.ref (a 0), .int p0, .int p1] below meth c D [(cI, .int), (cL, .long)] res (wM a cI cL nl np nt nr nh ns nk ne nw na nf nc ng nx) A H locs (F0 m 5 ls []) := by
    clear hf hP hD hS hl
    intro n
    induction n with
    | zero => intro s1 _ _ _ hf; cases hf
    | succ n ihk2 =>
      intro s1 H locs ls hf hP hD hS hl
      obtain ⟨q3, hf, hgk2⟩ := jx_bs hf
      refine lv_iload hx hb dX7_actsOf_5 (lv_at hl 4 rfl) ?_
      refine lv_bipush (v := 6) hx hb dX7_actsOf_7 (by decide) ?_
      refine lv_icmp_ge (tgt := 106) hx hb dX7_actsOf_9 (by decide) (fun hq => ?_) (fun hq => ?_)
      · replace hf := jx_pos hq hf
        have he := jx_eq hf
        subst he
        have he : _ = k2 := jx_eq hgk2
        subst he
        exact hXk2 _ _ _ hP hD hS (lv_sub hl [3] rfl)
      · replace hf := jx_neg hq hf
        refine lv_aload_n hx hb dX7_actsOf_12 rfl (lv_at hl 0 rfl) ?_
        refine lv_aload_n hx hb dX7_actsOf_13 rfl (lv_at hl 0 rfl) ?_
        refine va_get (D := D) (ci := 6) (v := .int nh) (C := RX7) (T := TX7) (N := 14) hx hb hts iw_X7_actsOf_X7 hown hK hP 0 rfl rfl 4 (by decide) (hts (.fieldLink RX7 65 "PassedDutiesModel" "there" "I") (by decide +kernel)) (fun _ h9 => h9) rfl dX7_actsOf_14 ?_
        refine lv_iload hx hb dX7_actsOf_17 (lv_at hl 4 rfl) ?_
        obtain ⟨r4, hc, hf⟩ := jx_bs hf
        refine jx_ki (wr := []) (ws2 := (wM a cI cL nl np nt nr nh ns nk ne nw na nf nc ng nx)) (jx_runV (As := [.int nh, .int s1.2]) (rest := []) ⟨hx, hb, hml, hown, hts⟩ (c_X7_heldBy l D a cI cL nl np nt nr nh ns nk ne nw na nf nc ng nx nh s1.2 r4 hc _) (cwV 2 hts gX7_actsOf_X7_heldBy rfl rfl rfl (by decide +kernel) ⟨Nat.le_of_ble_eq_true rfl, Nat.le_of_ble_eq_true rfl⟩) hK hN hP hD [0, 1, 2, 3, 4, 5, 6, 7] rfl (by decide) 0 6 rfl rfl rfl hl.1 rfl (Nat.le_of_ble_eq_true rfl) dX7_actsOf_19 ⟨Nat.le_of_ble_eq_true rfl, Nat.le_of_ble_eq_true rfl⟩) hP hD hS hA [0, 1, 2, 3, 4, 5, 6, 7] [] [0, 1, 2, 3, 4, 5, 6, 7] rfl rfl (by decide) (by decide) rfl (by decide) (fun H locs hP hD hS => ?_)
        clear hc
        refine lv_iload_n hx hb dX7_actsOf_22 rfl (lv_at hl 1 rfl) ?_
        obtain ⟨r5, hc, hf⟩ := jx_bs hf
        refine jx_ki (wr := [((a 0), .inr (6, [.int nl, .ref (a 1), .int nt, .ref (a 2), .int nh, .ref (a 3), .ref (a 4), .int ne, .int nw, .ref (a 5), .ref (a 6), .int nc, .ref (a 7), .long nx])), ((a 1), .inl (cI, 24, .inl np)), ((a 2), .inl (cI, 108, .inl nr)), ((a 3), .inl (cI, 8, .inl ns)), ((a 4), .inl (cI, 64, .inl nk)), ((a 5), .inl (cI, 8, .inl na)), ((a 6), .inl (cI, 8, .inl nf)), ((a 7), .inl (cI, 48, .inl ng))]) (ws2 := (wM a cI cL nl np nt nr nh ns nk ne nw na nf nc ng nx)) (jx_runS (As := [.int r4, .int p0]) (rest := []) ⟨hx, hb, hml, hown, hts⟩ (c_X7_has l D a cI cL r4 p0 r5 hc _) (va_cwS 2 hts gX7_actsOf_X7_has rfl rfl rfl (by decide +kernel) ⟨Nat.le_of_ble_eq_true rfl, Nat.le_of_ble_eq_true rfl⟩) hK hN hP hD [] rfl (by decide) rfl hl.1 rfl (Nat.le_of_ble_eq_true rfl) dX7_actsOf_23 ⟨Nat.le_of_ble_eq_true rfl, Nat.le_of_ble_eq_true rfl⟩) hP hD hS hA [] [0, 1, 2, 3, 4, 5, 6, 7] [0, 1, 2, 3, 4, 5, 6, 7] rfl rfl (by decide) (by decide) rfl (by decide) (fun H locs hP hD hS => ?_)
        clear hc
        refine lv_istore (lv' := [(5, .int r5), (0, .ref (a 0)), (1, .int p0), (2, .int p1), (3, .int s1.1), (4, .int s1.2)]) hx hb dX7_actsOf_26 hl (by decide) rfl (fun ls hl => ?_)
        refine lv_aload_n hx hb dX7_actsOf_28 rfl (lv_at hl 1 rfl) ?_
        refine lv_aload_n hx hb dX7_actsOf_29 rfl (lv_at hl 1 rfl) ?_
        refine va_get (D := D) (ci := 6) (v := .int nh) (C := RX7) (T := TX7) (N := 14) hx hb hts iw_X7_actsOf_X7 hown hK hP 0 rfl rfl 4 (by decide) (hts (.fieldLink RX7 65 "PassedDutiesModel" "there" "I") (by decide +kernel)) (fun _ h9 => h9) rfl dX7_actsOf_30 ?_
        refine lv_iload hx hb dX7_actsOf_33 (lv_at hl 5 rfl) ?_
        refine lv_bipush (v := 6) hx hb dX7_actsOf_35 (by decide) ?_
        refine lv_iadd hx hb dX7_actsOf_37 ?_
        obtain ⟨r6, hc, hf⟩ := jx_bs hf
        refine jx_ki (wr := []) (ws2 := (wM a cI cL nl np nt nr nh ns nk ne nw na nf nc ng nx)) (jx_runV (As := [.int nh, .int (s1.2 + (6 : Int32))]) (rest := []) ⟨hx, hb, hml, hown, hts⟩ (c_X7_heldBy l D a cI cL nl np nt nr nh ns nk ne nw na nf nc ng nx nh (s1.2 + (6 : Int32)) r6 hc _) (cwV 2 hts gX7_actsOf_X7_heldBy rfl rfl rfl (by decide +kernel) ⟨Nat.le_of_ble_eq_true rfl, Nat.le_of_ble_eq_true rfl⟩) hK hN hP hD [0, 1, 2, 3, 4, 5, 6, 7] rfl (by decide) 0 6 rfl rfl rfl hl.1 rfl (Nat.le_of_ble_eq_true rfl) dX7_actsOf_38 ⟨Nat.le_of_ble_eq_true rfl, Nat.le_of_ble_eq_true rfl⟩) hP hD hS hA [0, 1, 2, 3, 4, 5, 6, 7] [] [0, 1, 2, 3, 4, 5, 6, 7] rfl rfl (by decide) (by decide) rfl (by decide) (fun H locs hP hD hS => ?_)
        clear hc
        refine lv_iload_n hx hb dX7_actsOf_41 rfl (lv_at hl 2 rfl) ?_
        obtain ⟨r7, hc, hf⟩ := jx_bs hf
        refine jx_ki (wr := [((a 0), .inr (6, [.int nl, .ref (a 1), .int nt, .ref (a 2), .int nh, .ref (a 3), .ref (a 4), .int ne, .int nw, .ref (a 5), .ref (a 6), .int nc, .ref (a 7), .long nx])), ((a 1), .inl (cI, 24, .inl np)), ((a 2), .inl (cI, 108, .inl nr)), ((a 3), .inl (cI, 8, .inl ns)), ((a 4), .inl (cI, 64, .inl nk)), ((a 5), .inl (cI, 8, .inl na)), ((a 6), .inl (cI, 8, .inl nf)), ((a 7), .inl (cI, 48, .inl ng))]) (ws2 := (wM a cI cL nl np nt nr nh ns nk ne nw na nf nc ng nx)) (jx_runS (As := [.int r6, .int p0]) (rest := []) ⟨hx, hb, hml, hown, hts⟩ (c_X7_has l D a cI cL r6 p0 r7 hc _) (va_cwS 2 hts gX7_actsOf_X7_has rfl rfl rfl (by decide +kernel) ⟨Nat.le_of_ble_eq_true rfl, Nat.le_of_ble_eq_true rfl⟩) hK hN hP hD [] rfl (by decide) rfl hl.1 rfl (Nat.le_of_ble_eq_true rfl) dX7_actsOf_42 ⟨Nat.le_of_ble_eq_true rfl, Nat.le_of_ble_eq_true rfl⟩) hP hD hS hA [] [0, 1, 2, 3, 4, 5, 6, 7] [0, 1, 2, 3, 4, 5, 6, 7] rfl rfl (by decide) (by decide) rfl (by decide) (fun H locs hP hD hS => ?_)
        clear hc
        refine lv_istore (lv' := [(6, .int r7), (5, .int r5), (0, .ref (a 0)), (1, .int p0), (2, .int p1), (3, .int s1.1), (4, .int s1.2)]) hx hb dX7_actsOf_45 hl (by decide) rfl (fun ls hl => ?_)
        refine lv_iload_n hx hb dX7_actsOf_47 rfl (lv_at hl 4 rfl) ?_
        refine lv_iconst (v := 1) hx hb dX7_actsOf_48 (by decide) ?_
        obtain ⟨j8, hf, hkj8⟩ := jx_bs hf
        have hJj8 : ∀ (H : Heap) (locs : List Loc) (ls : Array Slot), va_P D vwCl (wM a cI cL nl np nt nr nh ns nk ne nw na nf nc ng nx) H → va_D A (wM a cI cL nl np nt nr nh ns nk ne nw na nf nc ng nx) → va_S A s.heap H locs → lv_has ls 8 [(0, .ref (a 0)), (1, .int p0), (2, .int p1), (3, .int s1.1), (4, .int s1.2)] → jx_Wi p l e wsX7_actsOf ({ frames := 3, cells := 0, slots := 0, locals := 71 }) s m [.ref (a 0), .int p0, .int p1] below meth c D [(cI, .int), (cL, .long)] res (wM a cI cL nl np nt nr nh ns nk ne nw na nf nc ng nx) A H locs (F0 m 82 ls [.int j8]) := by
          clear hf hP hD hS hl
          intro H locs ls hP hD hS hl
          have hf := hkj8
          refine lv_istore (lv' := [(7, .int j8), (0, .ref (a 0)), (1, .int p0), (2, .int p1), (3, .int s1.1), (4, .int s1.2)]) hx hb dX7_actsOf_82 hl (by decide) rfl (fun ls hl => ?_)
          refine lv_iload_n hx hb dX7_actsOf_84 rfl (lv_at hl 4 rfl) ?_
          refine lv_iload hx hb dX7_actsOf_85 (lv_at hl 0 rfl) ?_
          obtain ⟨j9, hf, hkj9⟩ := jx_bs hf
          have hJj9 : ∀ (H : Heap) (locs : List Loc) (ls : Array Slot), va_P D vwCl (wM a cI cL nl np nt nr nh ns nk ne nw na nf nc ng nx) H → va_D A (wM a cI cL nl np nt nr nh ns nk ne nw na nf nc ng nx) → va_S A s.heap H locs → lv_has ls 8 [(0, .ref (a 0)), (1, .int p0), (2, .int p1), (4, .int s1.2)] → jx_Wi p l e wsX7_actsOf ({ frames := 3, cells := 0, slots := 0, locals := 71 }) s m [.ref (a 0), .int p0, .int p1] below meth c D [(cI, .int), (cL, .long)] res (wM a cI cL nl np nt nr nh ns nk ne nw na nf nc ng nx) A H locs (F0 m 98 ls [.int j9, .int s1.1]) := by
            clear hf hP hD hS hl
            intro H locs ls hP hD hS hl
            have hf := hkj9
            refine lv_ior hx hb dX7_actsOf_98 ?_
            refine lv_istore_n (lv' := [(3, .int (s1.1 ||| j9)), (0, .ref (a 0)), (1, .int p0), (2, .int p1), (4, .int s1.2)]) hx hb dX7_actsOf_99 rfl hl (by decide) rfl (fun ls hl => ?_)
            refine lv_iinc (v := (s1.2 + (1 : Int32))) (lv' := [(4, .int (s1.2 + (1 : Int32))), (3, .int (s1.1 ||| j9)), (0, .ref (a 0)), (1, .int p0), (2, .int p1)]) hx hb dX7_actsOf_100 hl (k := 4) rfl rfl (by decide) rfl (fun ls hl => ?_)
            refine lv_goto (tgt := 5) hx hb dX7_actsOf_103 (by decide) ?_
            have he := jx_eq hf
            subst he
            exact ihk2 ((s1.1 ||| j9), (s1.2 + (1 : Int32))) _ _ _ hgk2 hP hD hS (lv_sub hl [2, 3, 4, 1, 0] rfl)
          refine lv_if_eq (tgt := 97) hx hb dX7_actsOf_87 (by decide) (fun hq => ?_) (fun hq => ?_)
          · replace hf := jx_pos hq hf
            refine lv_iconst (v := 0) hx hb dX7_actsOf_97 (by decide) ?_
            have he := jx_eq hf
            subst he
            exact hJj9 _ _ _ hP hD hS (lv_sub hl [1, 2, 3, 5] rfl)
          · replace hf := jx_neg hq hf
            refine lv_iconst (v := 1) hx hb dX7_actsOf_90 (by decide) ?_
            refine lv_iload hx hb dX7_actsOf_91 (lv_at hl 5 rfl) ?_
            refine lv_ishl hx hb dX7_actsOf_93 ?_
            refine lv_goto (tgt := 98) hx hb dX7_actsOf_94 (by decide) ?_
            have he := jx_eq hf
            subst he
            exact hJj9 _ _ _ hP hD hS (lv_sub hl [1, 2, 3, 5] rfl)
        refine lv_icmp_ne (tgt := 57) hx hb dX7_actsOf_49 (by decide) (fun hq => ?_) (fun hq => ?_)
        · replace hf := jx_pos hq hf
          refine lv_iload_n hx hb dX7_actsOf_57 rfl (lv_at hl 4 rfl) ?_
          refine lv_iconst (v := 2) hx hb dX7_actsOf_58 (by decide) ?_
          refine lv_icmp_ne (tgt := 67) hx hb dX7_actsOf_59 (by decide) (fun hq => ?_) (fun hq => ?_)
          · replace hf := jx_pos hq hf
            refine lv_iload hx hb dX7_actsOf_67 (lv_at hl 1 rfl) ?_
            refine lv_if_eq (tgt := 81) hx hb dX7_actsOf_69 (by decide) (fun hq => ?_) (fun hq => ?_)
            · replace hf := jx_pos hq hf
              refine lv_iconst (v := 0) hx hb dX7_actsOf_81 (by decide) ?_
              have he := jx_eq hf
              subst he
              exact hJj8 _ _ _ hP hD hS (lv_sub hl [2, 3, 4, 5, 6] rfl)
            · replace hf := jx_neg hq hf
              refine lv_iload hx hb dX7_actsOf_72 (lv_at hl 0 rfl) ?_
              refine lv_if_eq (tgt := 81) hx hb dX7_actsOf_74 (by decide) (fun hq => ?_) (fun hq => ?_)
              · replace hf := jx_pos hq hf
                refine lv_iconst (v := 0) hx hb dX7_actsOf_81 (by decide) ?_
                have he := jx_eq hf
                subst he
                exact hJj8 _ _ _ hP hD hS (lv_sub hl [2, 3, 4, 5, 6] rfl)
              · replace hf := jx_neg hq hf
                refine lv_iconst (v := 1) hx hb dX7_actsOf_77 (by decide) ?_
                refine lv_goto (tgt := 82) hx hb dX7_actsOf_78 (by decide) ?_
                have he := jx_eq hf
                subst he
                exact hJj8 _ _ _ hP hD hS (lv_sub hl [2, 3, 4, 5, 6] rfl)
          · replace hf := jx_negn hq hf
            refine lv_iload hx hb dX7_actsOf_62 (lv_at hl 0 rfl) ?_
            refine lv_goto (tgt := 82) hx hb dX7_actsOf_64 (by decide) ?_
            have he := jx_eq hf
            subst he
            exact hJj8 _ _ _ hP hD hS (lv_sub hl [2, 3, 4, 5, 6] rfl)
        · replace hf := jx_negn hq hf
          refine lv_iload hx hb dX7_actsOf_52 (lv_at hl 1 rfl) ?_
          refine lv_goto (tgt := 82) hx hb dX7_actsOf_54 (by decide) ?_
          have he := jx_eq hf
          subst he
          exact hJj8 _ _ _ hP hD hS (lv_sub hl [2, 3, 4, 5, 6] rfl)
  exact hLk2 jx_F ((0 : Int32), (0 : Int32)) _ _ _ hf hP hD hS (lv_sub hl [2, 3, 4, 1, 0] rfl)
theorem iw_X7_blank_X7 : ∀ w ∈ wsX70, w ∈ wsX7_blank := by decide +kernel
set_option maxHeartbeats 4000000 in
set_option maxRecDepth 100000 in
theorem c_X7_blank (l : Launch) (D : va_G) (a : Nat → Nat) (cI cL : ClassId) (nl : Int32) (np : (Nat → Int32)) (nt : Int32) (nr : (Nat → Int32)) (nh : Int32) (ns : (Nat → Int32)) (nk : (Nat → Int32)) (ne : Int32) (nw : Int32) (na : (Nat → Int32)) (nf : (Nat → Int32)) (nc : Int32) (ng : (Nat → Int32)) (nx : Int64) (res : (Int32 × Int32)) (hf : pf_X7_blank nl = some res) : jMi l yX7_blank wsX7_blank ({ frames := 0, cells := 0, slots := 0, locals := 0 }) D [(cI, .int), (cL, .long)] [.ref (a 0)] (wM a cI cL nl np nt nr nh ns nk ne nw na nf nc ng nx) res.1 (wM a cI cL res.2 np nt nr nh ns nk ne nw na nf nc ng nx) := by
  intro sz
  refine Met.ofW (cc := cX7_blank) (maxL := 2) (ret := (some .int)) (by decide) rfl ?_
  intro p e s m args below meth c s₁ B hml hv
  obtain ⟨rfl, hsz, hP, hK, hD0, hN⟩ := hv
  have hx := B.exec
  have hb := B.bytes
  have hr := B.returns
  have hts := atoms_spec (ws := wsX7_blank) B.pre
  have hown : s.vm.findClass RX7 = some m.cls := findClass_of_methodNamed B.named
  have hlocks := B.notSynchronized
  subst hsz
  have hD := hD0.self (sz := s.heap.size)
  generalize hAe : va_A (wM a cI cL nl np nt nr nh ns nk ne nw na nf nc ng nx) s.heap.size = A at hD ⊢
  have hA : ∀ q : Nat, s.heap.size ≤ q → A q := fun q h => by rw [← hAe]; exact Or.inr h
  have hS : va_S A s.heap s.heap [] := va_S.rf
  have hl := lv_entry ([.ref (a 0)]) (n := 2) (Nat.le_of_ble_eq_true rfl)
  rw [lg_entry_eq]
  generalize (lg_sl ([.ref (a 0)]) ++ List.replicate (2 - (lg_sl ([.ref (a 0)])).length) Slot.unset).toArray = ls at hl ⊢
  have hl : lv_has ls 2 [(0, .ref (a 0))] := hl
  have hf : pf_X7_blank nl = some res := hf
  refine lv_aload_n hx hb dX7_blank_0 rfl (lv_at hl 0 rfl) ?_
  refine va_get (D := D) (ci := 6) (v := .int nl) (C := RX7) (T := TX7) (N := 14) hx hb hts iw_X7_blank_X7 hown hK hP 0 rfl rfl 0 (by decide) (hts (.fieldLink RX7 35 "PassedDutiesModel" "pageLength" "I") (by decide +kernel)) (fun _ h9 => h9) rfl dX7_blank_1 ?_
  refine lv_istore_n (lv' := [(1, .int nl), (0, .ref (a 0))]) hx hb dX7_blank_4 rfl hl (by decide) rfl (fun ls hl => ?_)
  refine lv_aload_n hx hb dX7_blank_5 rfl (lv_at hl 1 rfl) ?_
  refine lv_iconst (v := 0) hx hb dX7_blank_6 (by decide) ?_
  refine va_put (D := D) (ci := 6) (v := .int (0 : Int32)) (ty := .int) (C := RX7) (T := TX7) (N := 14) hx hb hts iw_X7_blank_X7 tyX7 tyX7_ok nmX7 hown hK hP hD hS 0 rfl rfl 0 (by decide) (hts (.fieldLink RX7 35 "PassedDutiesModel" "pageLength" "I") (by decide +kernel)) (fun _ h9 => h9) rfl (by decide +kernel) rfl rfl (Nat.le_of_ble_eq_true rfl) dX7_blank_7 (fun H locs hP hD hS => ?_)
  have hP : va_P D vwCl (wM a cI cL (0 : Int32) np nt nr nh ns nk ne nw na nf nc ng nx) H := hP
  have hD : va_D A (wM a cI cL (0 : Int32) np nt nr nh ns nk ne nw na nf nc ng nx) := hD
  refine lv_iload_n hx hb dX7_blank_10 rfl (lv_at hl 0 rfl) ?_
  have he := jx_eq hf
  subst he
  exact jx_reti hx hb hr hlocks rfl hK hP hD hS dX7_blank_11
set_option maxHeartbeats 4000000 in
set_option maxRecDepth 100000 in
theorem c_X7_within (l : Launch) (D : va_G) (a : Nat → Nat) (cI cL : ClassId) (p0 : Int32) (p1 : Int32) (p2 : Int32) (res : Int32) (hf : pf_X7_within p0 p1 p2 = some res) : jMi l yX7_within wsX7_within ({ frames := 0, cells := 0, slots := 0, locals := 0 }) D [(cI, .int), (cL, .long)] [.int p0, .int p1, .int p2] (wE a cI cL) res (wE a cI cL) := by
  intro sz
  refine Met.ofW (cc := cX7_within) (maxL := 3) (ret := (some .boolean)) (by decide) rfl ?_
  intro p e s m args below meth c s₁ B hml hv
  obtain ⟨rfl, hsz, hP, hK, hD0, hN⟩ := hv
  have hx := B.exec
  have hb := B.bytes
  have hr := B.returns
  have hts := atoms_spec (ws := wsX7_within) B.pre
  have hown : s.vm.findClass RX7 = some m.cls := findClass_of_methodNamed B.named
  have hlocks := B.notSynchronized
  subst hsz
  have hD := hD0.self (sz := s.heap.size)
  generalize hAe : va_A (wE a cI cL) s.heap.size = A at hD ⊢
  have hA : ∀ q : Nat, s.heap.size ≤ q → A q := fun q h => by rw [← hAe]; exact Or.inr h
  have hS : va_S A s.heap s.heap [] := va_S.rf
  have hl := lv_entry ([.int p0, .int p1, .int p2]) (n := 3) (Nat.le_of_ble_eq_true rfl)
  rw [lg_entry_eq]
  generalize (lg_sl ([.int p0, .int p1, .int p2]) ++ List.replicate (3 - (lg_sl ([.int p0, .int p1, .int p2])).length) Slot.unset).toArray = ls at hl ⊢
  have hl : lv_has ls 3 [(0, .int p0), (1, .int p1), (2, .int p2)] := hl
  have hf : pf_X7_within p0 p1 p2 = some res := hf
  refine lv_iload_n hx hb dX7_within_0 rfl (lv_at hl 0 rfl) ?_
  refine lv_iload_n hx hb dX7_within_1 rfl (lv_at hl 1 rfl) ?_
  refine lv_icmp_lt (tgt := 14) hx hb dX7_within_2 (by decide) (fun hq => ?_) (fun hq => ?_)
  · replace hf := jx_pos hq hf
    refine lv_iconst (v := 0) hx hb dX7_within_14 (by decide) ?_
    have he := jx_eq hf
    subst he
    exact jx_retz hx hb hr hlocks narrow_b0 rfl hK hP hD hS dX7_within_15
  · replace hf := jx_neg hq hf
    refine lv_iload_n hx hb dX7_within_5 rfl (lv_at hl 0 rfl) ?_
    refine lv_iload_n hx hb dX7_within_6 rfl (lv_at hl 2 rfl) ?_
    refine lv_icmp_gt (tgt := 14) hx hb dX7_within_7 (by decide) (fun hq => ?_) (fun hq => ?_)
    · replace hf := jx_pos hq hf
      refine lv_iconst (v := 0) hx hb dX7_within_14 (by decide) ?_
      have he := jx_eq hf
      subst he
      exact jx_retz hx hb hr hlocks narrow_b0 rfl hK hP hD hS dX7_within_15
    · replace hf := jx_neg hq hf
      refine lv_iconst (v := 1) hx hb dX7_within_10 (by decide) ?_
      refine lv_goto (tgt := 15) hx hb dX7_within_11 (by decide) ?_
      have he := jx_eq hf
      subst he
      exact jx_retz hx hb hr hlocks narrow_b1 rfl hK hP hD hS dX7_within_15
theorem iw_X7_isPart_X7 : ∀ w ∈ wsX70, w ∈ wsX7_isPart := by decide +kernel
set_option maxHeartbeats 4000000 in
set_option maxRecDepth 100000 in
theorem c_X7_isPart (l : Launch) (D : va_G) (a : Nat → Nat) (cI cL : ClassId) (nl : Int32) (np : (Nat → Int32)) (nt : Int32) (nr : (Nat → Int32)) (nh : Int32) (ns : (Nat → Int32)) (nk : (Nat → Int32)) (ne : Int32) (nw : Int32) (na : (Nat → Int32)) (nf : (Nat → Int32)) (nc : Int32) (ng : (Nat → Int32)) (nx : Int64) (p0 : Int32) (res : Int32) (hf : pf_X7_isPart nh p0 = some res) : jMi l yX7_isPart wsX7_isPart ({ frames := 1, cells := 0, slots := 0, locals := 22 }) D [(cI, .int), (cL, .long)] [.ref (a 0), .int p0] (wM a cI cL nl np nt nr nh ns nk ne nw na nf nc ng nx) res (wM a cI cL nl np nt nr nh ns nk ne nw na nf nc ng nx) := by
  intro sz
  refine Met.ofW (cc := cX7_isPart) (maxL := 2) (ret := (some .boolean)) (by decide) rfl ?_
  intro p e s m args below meth c s₁ B hml hv
  obtain ⟨rfl, hsz, hP, hK, hD0, hN⟩ := hv
  have hx := B.exec
  have hb := B.bytes
  have hr := B.returns
  have hts := atoms_spec (ws := wsX7_isPart) B.pre
  have hown : s.vm.findClass RX7 = some m.cls := findClass_of_methodNamed B.named
  have hlocks := B.notSynchronized
  subst hsz
  have hD := hD0.self (sz := s.heap.size)
  generalize hAe : va_A (wM a cI cL nl np nt nr nh ns nk ne nw na nf nc ng nx) s.heap.size = A at hD ⊢
  have hA : ∀ q : Nat, s.heap.size ≤ q → A q := fun q h => by rw [← hAe]; exact Or.inr h
  have hS : va_S A s.heap s.heap [] := va_S.rf
  have hl := lv_entry ([.ref (a 0), .int p0]) (n := 2) (Nat.le_of_ble_eq_true rfl)
  rw [lg_entry_eq]
  generalize (lg_sl ([.ref (a 0), .int p0]) ++ List.replicate (2 - (lg_sl ([.ref (a 0), .int p0])).length) Slot.unset).toArray = ls at hl ⊢
  have hl : lv_has ls 2 [(0, .ref (a 0)), (1, .int p0)] := hl
  have hf : pf_X7_isPart nh p0 = some res := hf
  refine lv_iload_n hx hb dX7_isPart_0 rfl (lv_at hl 1 rfl) ?_
  refine lv_iconst (v := 0) hx hb dX7_isPart_1 (by decide) ?_
  refine lv_bipush (v := 7) hx hb dX7_isPart_2 (by decide) ?_
  obtain ⟨r1, hc, hf⟩ := jx_bs hf
  refine jx_ki (wr := [((a 0), .inr (6, [.int nl, .ref (a 1), .int nt, .ref (a 2), .int nh, .ref (a 3), .ref (a 4), .int ne, .int nw, .ref (a 5), .ref (a 6), .int nc, .ref (a 7), .long nx])), ((a 1), .inl (cI, 24, .inl np)), ((a 2), .inl (cI, 108, .inl nr)), ((a 3), .inl (cI, 8, .inl ns)), ((a 4), .inl (cI, 64, .inl nk)), ((a 5), .inl (cI, 8, .inl na)), ((a 6), .inl (cI, 8, .inl nf)), ((a 7), .inl (cI, 48, .inl ng))]) (ws2 := (wM a cI cL nl np nt nr nh ns nk ne nw na nf nc ng nx)) (jx_runS (As := [.int p0, .int (0 : Int32), .int (7 : Int32)]) (rest := []) ⟨hx, hb, hml, hown, hts⟩ (c_X7_within l D a cI cL p0 (0 : Int32) (7 : Int32) r1 hc _) (va_cwS 3 hts gX7_isPart_X7_within rfl rfl rfl (by decide +kernel) ⟨Nat.le_of_ble_eq_true rfl, Nat.le_of_ble_eq_true rfl⟩) hK hN hP hD [] rfl (by decide) rfl hl.1 rfl (Nat.le_of_ble_eq_true rfl) dX7_isPart_4 ⟨Nat.le_of_ble_eq_true rfl, Nat.le_of_ble_eq_true rfl⟩) hP hD hS hA [] [0, 1, 2, 3, 4, 5, 6, 7] [0, 1, 2, 3, 4, 5, 6, 7] rfl rfl (by decide) (by decide) rfl (by decide) (fun H locs hP hD hS => ?_)
  clear hc
  refine lv_if_eq (tgt := 25) hx hb dX7_isPart_7 (by decide) (fun hq => ?_) (fun hq => ?_)
  · replace hf := jx_pos hq hf
    refine lv_iconst (v := 0) hx hb dX7_isPart_25 (by decide) ?_
    have he := jx_eq hf
    subst he
    exact jx_retz hx hb hr hlocks narrow_b0 rfl hK hP hD hS dX7_isPart_26
  · replace hf := jx_neg hq hf
    refine lv_aload_n hx hb dX7_isPart_10 rfl (lv_at hl 0 rfl) ?_
    refine va_get (D := D) (ci := 6) (v := .int nh) (C := RX7) (T := TX7) (N := 14) hx hb hts iw_X7_isPart_X7 hown hK hP 0 rfl rfl 4 (by decide) (hts (.fieldLink RX7 65 "PassedDutiesModel" "there" "I") (by decide +kernel)) (fun _ h9 => h9) rfl dX7_isPart_11 ?_
    refine lv_iload_n hx hb dX7_isPart_14 rfl (lv_at hl 1 rfl) ?_
    obtain ⟨r2, hc, hf⟩ := jx_bs hf
    refine jx_ki (wr := [((a 0), .inr (6, [.int nl, .ref (a 1), .int nt, .ref (a 2), .int nh, .ref (a 3), .ref (a 4), .int ne, .int nw, .ref (a 5), .ref (a 6), .int nc, .ref (a 7), .long nx])), ((a 1), .inl (cI, 24, .inl np)), ((a 2), .inl (cI, 108, .inl nr)), ((a 3), .inl (cI, 8, .inl ns)), ((a 4), .inl (cI, 64, .inl nk)), ((a 5), .inl (cI, 8, .inl na)), ((a 6), .inl (cI, 8, .inl nf)), ((a 7), .inl (cI, 48, .inl ng))]) (ws2 := (wM a cI cL nl np nt nr nh ns nk ne nw na nf nc ng nx)) (jx_runS (As := [.int nh, .int p0]) (rest := []) ⟨hx, hb, hml, hown, hts⟩ (c_X7_has l D a cI cL nh p0 r2 hc _) (va_cwS 2 hts gX7_isPart_X7_has rfl rfl rfl (by decide +kernel) ⟨Nat.le_of_ble_eq_true rfl, Nat.le_of_ble_eq_true rfl⟩) hK hN hP hD [] rfl (by decide) rfl hl.1 rfl (Nat.le_of_ble_eq_true rfl) dX7_isPart_15 ⟨Nat.le_of_ble_eq_true rfl, Nat.le_of_ble_eq_true rfl⟩) hP hD hS hA [] [0, 1, 2, 3, 4, 5, 6, 7] [0, 1, 2, 3, 4, 5, 6, 7] rfl rfl (by decide) (by decide) rfl (by decide) (fun H locs hP hD hS => ?_)
    clear hc
    refine lv_if_eq (tgt := 25) hx hb dX7_isPart_18 (by decide) (fun hq => ?_) (fun hq => ?_)
    · replace hf := jx_pos hq hf
      refine lv_iconst (v := 0) hx hb dX7_isPart_25 (by decide) ?_
      have he := jx_eq hf
      subst he
      exact jx_retz hx hb hr hlocks narrow_b0 rfl hK hP hD hS dX7_isPart_26
    · replace hf := jx_neg hq hf
      refine lv_iconst (v := 1) hx hb dX7_isPart_21 (by decide) ?_
      refine lv_goto (tgt := 26) hx hb dX7_isPart_22 (by decide) ?_
      have he := jx_eq hf
      subst he
      exact jx_retz hx hb hr hlocks narrow_b1 rfl hK hP hD hS dX7_isPart_26
set_option maxHeartbeats 4000000 in
set_option maxRecDepth 100000 in
theorem c_X7_ones (l : Launch) (D : va_G) (a : Nat → Nat) (cI cL : ClassId) (p0 : Int32) (res : Int32) (hf : pf_X7_ones p0 = some res) : jMi l yX7_ones wsX7_ones ({ frames := 0, cells := 0, slots := 0, locals := 0 }) D [(cI, .int), (cL, .long)] [.int p0] (wE a cI cL) res (wE a cI cL) := by
  intro sz
  refine Met.ofW (cc := cX7_ones) (maxL := 3) (ret := (some .int)) (by decide) rfl ?_
  intro p e s m args below meth c s₁ B hml hv
  obtain ⟨rfl, hsz, hP, hK, hD0, hN⟩ := hv
  have hx := B.exec
  have hb := B.bytes
  have hr := B.returns
  have hts := atoms_spec (ws := wsX7_ones) B.pre
  have hown : s.vm.findClass RX7 = some m.cls := findClass_of_methodNamed B.named
  have hlocks := B.notSynchronized
  subst hsz
  have hD := hD0.self (sz := s.heap.size)
  generalize hAe : va_A (wE a cI cL) s.heap.size = A at hD ⊢
  have hA : ∀ q : Nat, s.heap.size ≤ q → A q := fun q h => by rw [← hAe]; exact Or.inr h
  have hS : va_S A s.heap s.heap [] := va_S.rf
  have hl := lv_entry ([.int p0]) (n := 3) (Nat.le_of_ble_eq_true rfl)
  rw [lg_entry_eq]
  generalize (lg_sl ([.int p0]) ++ List.replicate (3 - (lg_sl ([.int p0])).length) Slot.unset).toArray = ls at hl ⊢
  have hl : lv_has ls 3 [(0, .int p0)] := hl
  have hf : pf_X7_ones p0 = some res := hf
  refine lv_iconst (v := 0) hx hb dX7_ones_0 (by decide) ?_
  refine lv_istore_n (lv' := [(1, .int (0 : Int32)), (0, .int p0)]) hx hb dX7_ones_1 rfl hl (by decide) rfl (fun ls hl => ?_)
  refine lv_iconst (v := 0) hx hb dX7_ones_2 (by decide) ?_
  refine lv_istore_n (lv' := [(2, .int (0 : Int32)), (1, .int (0 : Int32)), (0, .int p0)]) hx hb dX7_ones_3 rfl hl (by decide) rfl (fun ls hl => ?_)
  obtain ⟨k2, hf, hkk2⟩ := jx_bs hf
  have hXk2 : ∀ (H : Heap) (locs : List Loc) (ls : Array Slot), va_P D vwCl (wE a cI cL) H → va_D A (wE a cI cL) → va_S A s.heap H locs → lv_has ls 3 [(1, .int k2)] → jx_Wi p l e wsX7_ones ({ frames := 0, cells := 0, slots := 0, locals := 0 }) s m [.int p0] below meth c D [(cI, .int), (cL, .long)] res (wE a cI cL) A H locs (F0 m 24 ls []) := by
    clear hf hP hD hS hl
    intro H locs ls hP hD hS hl
    have hf := hkk2
    refine lv_iload_n hx hb dX7_ones_24 rfl (lv_at hl 0 rfl) ?_
    have he := jx_eq hf
    subst he
    exact jx_reti hx hb hr hlocks rfl hK hP hD hS dX7_ones_25
  have hLk2 : ∀ (n : Nat) (s1 : (Int32 × Int32)) (H : Heap) (locs : List Loc) (ls : Array Slot), jx_iter (pf_X7_ones_s1 p0) n s1 = some k2 → va_P D vwCl (wE a cI cL) H → va_D A (wE a cI cL) → va_S A s.heap H locs → lv_has ls 3 [(0, .int p0), (1, .int s1.1), (2, .int s1.2)] → jx_Wi p l e wsX7_ones ({ frames := 0, cells := 0, slots := 0, locals := 0 }) s m [.int p0] below meth c D [(cI, .int), (cL, .long)] res (wE a cI cL) A H locs (F0 m 4 ls []) := by
    clear hf hP hD hS hl
    intro n
    induction n with
    | zero => intro s1 _ _ _ hf; cases hf
    | succ n ihk2 =>
      intro s1 H locs ls hf hP hD hS hl
      obtain ⟨q3, hf, hgk2⟩ := jx_bs hf
      refine lv_iload_n hx hb dX7_ones_4 rfl (lv_at hl 2 rfl) ?_
      refine lv_bipush (v := 8) hx hb dX7_ones_5 (by decide) ?_
      refine lv_icmp_ge (tgt := 24) hx hb dX7_ones_7 (by decide) (fun hq => ?_) (fun hq => ?_)
      · replace hf := jx_pos hq hf
        have he := jx_eq hf
        subst he
        have he : _ = k2 := jx_eq hgk2
        subst he
        exact hXk2 _ _ _ hP hD hS (lv_sub hl [1] rfl)
      · replace hf := jx_neg hq hf
        refine lv_iload_n hx hb dX7_ones_10 rfl (lv_at hl 1 rfl) ?_
        refine lv_iload_n hx hb dX7_ones_11 rfl (lv_at hl 0 rfl) ?_
        refine lv_iload_n hx hb dX7_ones_12 rfl (lv_at hl 2 rfl) ?_
        refine lv_ishr hx hb dX7_ones_13 ?_
        refine lv_iconst (v := 1) hx hb dX7_ones_14 (by decide) ?_
        refine lv_iand hx hb dX7_ones_15 ?_
        refine lv_iadd hx hb dX7_ones_16 ?_
        refine lv_istore_n (lv' := [(1, .int (s1.1 + ((p0 >>> (s1.2 &&& 31)) &&& (1 : Int32)))), (0, .int p0), (2, .int s1.2)]) hx hb dX7_ones_17 rfl hl (by decide) rfl (fun ls hl => ?_)
        refine lv_iinc (v := (s1.2 + (1 : Int32))) (lv' := [(2, .int (s1.2 + (1 : Int32))), (1, .int (s1.1 + ((p0 >>> (s1.2 &&& 31)) &&& (1 : Int32)))), (0, .int p0)]) hx hb dX7_ones_18 hl (k := 2) rfl rfl (by decide) rfl (fun ls hl => ?_)
        refine lv_goto (tgt := 4) hx hb dX7_ones_21 (by decide) ?_
        have he := jx_eq hf
        subst he
        exact ihk2 ((s1.1 + ((p0 >>> (s1.2 &&& 31)) &&& (1 : Int32))), (s1.2 + (1 : Int32))) _ _ _ hgk2 hP hD hS (lv_sub hl [2, 1, 0] rfl)
  exact hLk2 jx_F ((0 : Int32), (0 : Int32)) _ _ _ hf hP hD hS (lv_sub hl [2, 1, 0] rfl)
set_option maxHeartbeats 4000000 in
set_option maxRecDepth 100000 in
theorem c_X7_clashing (l : Launch) (D : va_G) (a : Nat → Nat) (cI cL : ClassId) (nl : Int32) (np : (Nat → Int32)) (nt : Int32) (nr : (Nat → Int32)) (nh : Int32) (ns : (Nat → Int32)) (nk : (Nat → Int32)) (ne : Int32) (nw : Int32) (na : (Nat → Int32)) (nf : (Nat → Int32)) (nc : Int32) (ng : (Nat → Int32)) (nx : Int64) (p0 : Int32) (p1 : Int32) (res : Int32) (hf : pf_X7_clashing nr ns nk p0 p1 = some res) : jMi l yX7_clashing wsX7_clashing ({ frames := 3, cells := 0, slots := 0, locals := 71 }) D [(cI, .int), (cL, .long)] [.ref (a 0), .int p0, .int p1] (wM a cI cL nl np nt nr nh ns nk ne nw na nf nc ng nx) res (wM a cI cL nl np nt nr nh ns nk ne nw na nf nc ng nx) := by
  intro sz
  refine Met.ofW (cc := cX7_clashing) (maxL := 3) (ret := (some .int)) (by decide) rfl ?_
  intro p e s m args below meth c s₁ B hml hv
  obtain ⟨rfl, hsz, hP, hK, hD0, hN⟩ := hv
  have hx := B.exec
  have hb := B.bytes
  have hr := B.returns
  have hts := atoms_spec (ws := wsX7_clashing) B.pre
  have hown : s.vm.findClass RX7 = some m.cls := findClass_of_methodNamed B.named
  have hlocks := B.notSynchronized
  subst hsz
  have hD := hD0.self (sz := s.heap.size)
  generalize hAe : va_A (wM a cI cL nl np nt nr nh ns nk ne nw na nf nc ng nx) s.heap.size = A at hD ⊢
  have hA : ∀ q : Nat, s.heap.size ≤ q → A q := fun q h => by rw [← hAe]; exact Or.inr h
  have hS : va_S A s.heap s.heap [] := va_S.rf
  have hl := lv_entry ([.ref (a 0), .int p0, .int p1]) (n := 3) (Nat.le_of_ble_eq_true rfl)
  rw [lg_entry_eq]
  generalize (lg_sl ([.ref (a 0), .int p0, .int p1]) ++ List.replicate (3 - (lg_sl ([.ref (a 0), .int p0, .int p1])).length) Slot.unset).toArray = ls at hl ⊢
  have hl : lv_has ls 3 [(0, .ref (a 0)), (1, .int p0), (2, .int p1)] := hl
  have hf : pf_X7_clashing nr ns nk p0 p1 = some res := hf
  refine lv_aload_n hx hb dX7_clashing_0 rfl (lv_at hl 0 rfl) ?_
  refine lv_iload_n hx hb dX7_clashing_1 rfl (lv_at hl 1 rfl) ?_
  refine lv_iload_n hx hb dX7_clashing_2 rfl (lv_at hl 2 rfl) ?_
  obtain ⟨r1, hc, hf⟩ := jx_bs hf
  refine jx_ki (wr := []) (ws2 := (wM a cI cL nl np nt nr nh ns nk ne nw na nf nc ng nx)) (jx_runV (As := [.int p0, .int p1]) (rest := []) ⟨hx, hb, hml, hown, hts⟩ (c_X7_heldBy l D a cI cL nl np nt nr nh ns nk ne nw na nf nc ng nx p0 p1 r1 hc _) (cwV 2 hts gX7_clashing_X7_heldBy rfl rfl rfl (by decide +kernel) ⟨Nat.le_of_ble_eq_true rfl, Nat.le_of_ble_eq_true rfl⟩) hK hN hP hD [0, 1, 2, 3, 4, 5, 6, 7] rfl (by decide) 0 6 rfl rfl rfl hl.1 rfl (Nat.le_of_ble_eq_true rfl) dX7_clashing_3 ⟨Nat.le_of_ble_eq_true rfl, Nat.le_of_ble_eq_true rfl⟩) hP hD hS hA [0, 1, 2, 3, 4, 5, 6, 7] [] [0, 1, 2, 3, 4, 5, 6, 7] rfl rfl (by decide) (by decide) rfl (by decide) (fun H locs hP hD hS => ?_)
  clear hc
  refine lv_aload_n hx hb dX7_clashing_6 rfl (lv_at hl 0 rfl) ?_
  refine lv_iload_n hx hb dX7_clashing_7 rfl (lv_at hl 1 rfl) ?_
  refine lv_iload_n hx hb dX7_clashing_8 rfl (lv_at hl 2 rfl) ?_
  refine lv_bipush (v := 6) hx hb dX7_clashing_9 (by decide) ?_
  refine lv_iadd hx hb dX7_clashing_11 ?_
  obtain ⟨r2, hc, hf⟩ := jx_bs hf
  refine jx_ki (wr := []) (ws2 := (wM a cI cL nl np nt nr nh ns nk ne nw na nf nc ng nx)) (jx_runV (As := [.int p0, .int (p1 + (6 : Int32))]) (rest := [.int r1]) ⟨hx, hb, hml, hown, hts⟩ (c_X7_heldBy l D a cI cL nl np nt nr nh ns nk ne nw na nf nc ng nx p0 (p1 + (6 : Int32)) r2 hc _) (cwV 2 hts gX7_clashing_X7_heldBy rfl rfl rfl (by decide +kernel) ⟨Nat.le_of_ble_eq_true rfl, Nat.le_of_ble_eq_true rfl⟩) hK hN hP hD [0, 1, 2, 3, 4, 5, 6, 7] rfl (by decide) 0 6 rfl rfl rfl hl.1 rfl (Nat.le_of_ble_eq_true rfl) dX7_clashing_12 ⟨Nat.le_of_ble_eq_true rfl, Nat.le_of_ble_eq_true rfl⟩) hP hD hS hA [0, 1, 2, 3, 4, 5, 6, 7] [] [0, 1, 2, 3, 4, 5, 6, 7] rfl rfl (by decide) (by decide) rfl (by decide) (fun H locs hP hD hS => ?_)
  clear hc
  refine lv_iand hx hb dX7_clashing_15 ?_
  have he := jx_eq hf
  subst he
  exact jx_reti hx hb hr hlocks rfl hK hP hD hS dX7_clashing_16
theorem iw_X7_causeNow_X7 : ∀ w ∈ wsX70, w ∈ wsX7_causeNow := by decide +kernel
set_option maxHeartbeats 4000000 in
set_option maxRecDepth 100000 in
theorem c_X7_causeNow (l : Launch) (D : va_G) (a : Nat → Nat) (cI cL : ClassId) (nl : Int32) (np : (Nat → Int32)) (nt : Int32) (nr : (Nat → Int32)) (nh : Int32) (ns : (Nat → Int32)) (nk : (Nat → Int32)) (ne : Int32) (nw : Int32) (na : (Nat → Int32)) (nf : (Nat → Int32)) (nc : Int32) (ng : (Nat → Int32)) (nx : Int64) (p0 : Int32) (p1 : Int32) (res : Int32) (hf : pf_X7_causeNow nr nh ns nk p0 p1 = some res) : jMi l yX7_causeNow wsX7_causeNow ({ frames := 4, cells := 0, slots := 0, locals := 93 }) D [(cI, .int), (cL, .long)] [.ref (a 0), .int p0, .int p1] (wM a cI cL nl np nt nr nh ns nk ne nw na nf nc ng nx) res (wM a cI cL nl np nt nr nh ns nk ne nw na nf nc ng nx) := by
  intro sz
  refine Met.ofW (cc := cX7_causeNow) (maxL := 6) (ret := (some .int)) (by decide) rfl ?_
  intro p e s m args below meth c s₁ B hml hv
  obtain ⟨rfl, hsz, hP, hK, hD0, hN⟩ := hv
  have hx := B.exec
  have hb := B.bytes
  have hr := B.returns
  have hts := atoms_spec (ws := wsX7_causeNow) B.pre
  have hown : s.vm.findClass RX7 = some m.cls := findClass_of_methodNamed B.named
  have hlocks := B.notSynchronized
  subst hsz
  have hD := hD0.self (sz := s.heap.size)
  generalize hAe : va_A (wM a cI cL nl np nt nr nh ns nk ne nw na nf nc ng nx) s.heap.size = A at hD ⊢
  have hA : ∀ q : Nat, s.heap.size ≤ q → A q := fun q h => by rw [← hAe]; exact Or.inr h
  have hS : va_S A s.heap s.heap [] := va_S.rf
  have hl := lv_entry ([.ref (a 0), .int p0, .int p1]) (n := 6) (Nat.le_of_ble_eq_true rfl)
  rw [lg_entry_eq]
  generalize (lg_sl ([.ref (a 0), .int p0, .int p1]) ++ List.replicate (6 - (lg_sl ([.ref (a 0), .int p0, .int p1])).length) Slot.unset).toArray = ls at hl ⊢
  have hl : lv_has ls 6 [(0, .ref (a 0)), (1, .int p0), (2, .int p1)] := hl
  have hf : pf_X7_causeNow nr nh ns nk p0 p1 = some res := hf
  refine lv_iconst (v := 1) hx hb dX7_causeNow_0 (by decide) ?_
  refine lv_istore_n (lv' := [(3, .int (1 : Int32)), (0, .ref (a 0)), (1, .int p0), (2, .int p1)]) hx hb dX7_causeNow_1 rfl hl (by decide) rfl (fun ls hl => ?_)
  obtain ⟨k2, hf, hkk2⟩ := jx_bs hf
  have hXk2 : ∀ (xk2 : Unit), k2 = Sum.inl xk2 → ∀ (H : Heap) (locs : List Loc) (ls : Array Slot), va_P D vwCl (wM a cI cL nl np nt nr nh ns nk ne nw na nf nc ng nx) H → va_D A (wM a cI cL nl np nt nr nh ns nk ne nw na nf nc ng nx) → va_S A s.heap H locs → lv_has ls 6 [] → jx_Wi p l e wsX7_causeNow ({ frames := 4, cells := 0, slots := 0, locals := 93 }) s m [.ref (a 0), .int p0, .int p1] below meth c D [(cI, .int), (cL, .long)] res (wM a cI cL nl np nt nr nh ns nk ne nw na nf nc ng nx) A H locs (F0 m 90 ls []) := by
    clear hf hP hD hS hl
    intro xk2 he H locs ls hP hD hS hl
    subst he
    have hf := hkk2
    refine lv_iconst (v := -1) hx hb dX7_causeNow_90 (by decide) ?_
    have he := jx_eq hf
    subst he
    exact jx_reti hx hb hr hlocks rfl hK hP hD hS dX7_causeNow_91
  have hLk2 : ∀ (n : Nat) (s1 : Int32) (H : Heap) (locs : List Loc) (ls : Array Slot), jx_iter (pf_X7_causeNow_s1 nr nh ns nk p0 p1) n s1 = some k2 → va_P D vwCl (wM a cI cL nl np nt nr nh ns nk ne nw na nf nc ng nx) H → va_D A (wM a cI cL nl np nt nr nh ns nk ne nw na nf nc ng nx) → va_S A s.heap H locs → lv_has ls 6 [(0, .ref (a 0)), (1, .int p0), (2, .int p1), (3, .int s1)] → jx_Wi p l e wsX7_causeNow ({ frames := 4, cells := 0, slots := 0, locals := 93 }) s m [.ref (a 0), .int p0, .int p1] below meth c D [(cI, .int), (cL, .long)] res (wM a cI cL nl np nt nr nh ns nk ne nw na nf nc ng nx) A H locs (F0 m 2 ls []) := by
    clear hf hP hD hS hl
    intro n
    induction n with
    | zero => intro s1 _ _ _ hf; cases hf
    | succ n ihk2 =>
      intro s1 H locs ls hf hP hD hS hl
      obtain ⟨q3, hf, hgk2⟩ := jx_bs hf
      refine lv_iload_n hx hb dX7_causeNow_2 rfl (lv_at hl 3 rfl) ?_
      refine lv_bipush (v := 8) hx hb dX7_causeNow_3 (by decide) ?_
      refine lv_icmp_gt (tgt := 90) hx hb dX7_causeNow_5 (by decide) (fun hq => ?_) (fun hq => ?_)
      · replace hf := jx_pos hq hf
        have he := jx_eq hf
        subst he
        have he : Sum.inl _ = k2 := jx_eq hgk2
        subst he
        exact hXk2 _ rfl _ _ _ hP hD hS (lv_sub hl [] rfl)
      · replace hf := jx_neg hq hf
        refine lv_iconst (v := 1) hx hb dX7_causeNow_8 (by decide) ?_
        refine lv_istore (lv' := [(4, .int (1 : Int32)), (0, .ref (a 0)), (1, .int p0), (2, .int p1), (3, .int s1)]) hx hb dX7_causeNow_9 hl (by decide) rfl (fun ls hl => ?_)
        obtain ⟨k5, hf, hkk5⟩ := jx_bs hf
        have hXk5 : ∀ (xk5 : Unit), k5 = Sum.inl xk5 → ∀ (H : Heap) (locs : List Loc) (ls : Array Slot), va_P D vwCl (wM a cI cL nl np nt nr nh ns nk ne nw na nf nc ng nx) H → va_D A (wM a cI cL nl np nt nr nh ns nk ne nw na nf nc ng nx) → va_S A s.heap H locs → lv_has ls 6 [(0, .ref (a 0)), (1, .int p0), (2, .int p1), (3, .int s1)] → jx_Wi p l e wsX7_causeNow ({ frames := 4, cells := 0, slots := 0, locals := 93 }) s m [.ref (a 0), .int p0, .int p1] below meth c D [(cI, .int), (cL, .long)] res (wM a cI cL nl np nt nr nh ns nk ne nw na nf nc ng nx) A H locs (F0 m 84 ls []) := by
          clear hf hP hD hS hl
          intro xk5 he H locs ls hP hD hS hl
          subst he
          have hf := hkk5
          refine lv_iinc (v := (s1 + (1 : Int32))) (lv' := [(3, .int (s1 + (1 : Int32))), (0, .ref (a 0)), (1, .int p0), (2, .int p1)]) hx hb dX7_causeNow_84 hl (k := 3) rfl rfl (by decide) rfl (fun ls hl => ?_)
          refine lv_goto (tgt := 2) hx hb dX7_causeNow_87 (by decide) ?_
          have he := jx_eq hf
          subst he
          exact ihk2 (s1 + (1 : Int32)) _ _ _ hgk2 hP hD hS (lv_sub hl [1, 2, 3, 0] rfl)
        have hLk5 : ∀ (n : Nat) (s4 : Int32) (H : Heap) (locs : List Loc) (ls : Array Slot), jx_iter (pf_X7_causeNow_s2 nr nh ns nk p0 p1 s1) n s4 = some k5 → va_P D vwCl (wM a cI cL nl np nt nr nh ns nk ne nw na nf nc ng nx) H → va_D A (wM a cI cL nl np nt nr nh ns nk ne nw na nf nc ng nx) → va_S A s.heap H locs → lv_has ls 6 [(0, .ref (a 0)), (1, .int p0), (2, .int p1), (3, .int s1), (4, .int s4)] → jx_Wi p l e wsX7_causeNow ({ frames := 4, cells := 0, slots := 0, locals := 93 }) s m [.ref (a 0), .int p0, .int p1] below meth c D [(cI, .int), (cL, .long)] res (wM a cI cL nl np nt nr nh ns nk ne nw na nf nc ng nx) A H locs (F0 m 11 ls []) := by
          clear hf hP hD hS hl
          intro n
          induction n with
          | zero => intro s4 _ _ _ hf; cases hf
          | succ n ihk5 =>
            intro s4 H locs ls hf hP hD hS hl
            obtain ⟨q6, hf, hgk5⟩ := jx_bs hf
            refine lv_iload hx hb dX7_causeNow_11 (lv_at hl 4 rfl) ?_
            refine lv_sipush (v := 256) hx hb dX7_causeNow_13 (by decide) ?_
            refine lv_icmp_ge (tgt := 84) hx hb dX7_causeNow_16 (by decide) (fun hq => ?_) (fun hq => ?_)
            · replace hf := jx_pos hq hf
              have he := jx_eq hf
              subst he
              have he : Sum.inl _ = k5 := jx_eq hgk5
              subst he
              exact hXk5 _ rfl _ _ _ hP hD hS (lv_sub hl [0, 1, 2, 3] rfl)
            · replace hf := jx_neg hq hf
              refine lv_iload hx hb dX7_causeNow_19 (lv_at hl 4 rfl) ?_
              refine lv_aload_n hx hb dX7_causeNow_21 rfl (lv_at hl 0 rfl) ?_
              refine va_get (D := D) (ci := 6) (v := .int nh) (C := RX7) (T := TX7) (N := 14) hx hb hts iw_X7_causeNow_X7 hown hK hP 0 rfl rfl 4 (by decide) (hts (.fieldLink RX7 65 "PassedDutiesModel" "there" "I") (by decide +kernel)) (fun _ h9 => h9) rfl dX7_causeNow_22 ?_
              refine lv_iconst (v := -1) hx hb dX7_causeNow_25 (by decide) ?_
              refine lv_ixor hx hb dX7_causeNow_26 ?_
              refine lv_iand hx hb dX7_causeNow_27 ?_
              obtain ⟨j7, hf, hkj7⟩ := jx_bs hf
              have hJj7 : ∀ (H : Heap) (locs : List Loc) (ls : Array Slot), va_P D vwCl (wM a cI cL nl np nt nr nh ns nk ne nw na nf nc ng nx) H → va_D A (wM a cI cL nl np nt nr nh ns nk ne nw na nf nc ng nx) → va_S A s.heap H locs → lv_has ls 6 [(0, .ref (a 0)), (1, .int p0), (2, .int p1), (3, .int s1), (4, .int s4)] → jx_Wi p l e wsX7_causeNow ({ frames := 4, cells := 0, slots := 0, locals := 93 }) s m [.ref (a 0), .int p0, .int p1] below meth c D [(cI, .int), (cL, .long)] res (wM a cI cL nl np nt nr nh ns nk ne nw na nf nc ng nx) A H locs (F0 m 54 ls [.int j7]) := by
                clear hf hP hD hS hl
                intro H locs ls hP hD hS hl
                have hf := hkj7
                refine lv_istore (lv' := [(5, .int j7), (0, .ref (a 0)), (1, .int p0), (2, .int p1), (3, .int s1), (4, .int s4)]) hx hb dX7_causeNow_54 hl (by decide) rfl (fun ls hl => ?_)
                refine lv_iload hx hb dX7_causeNow_56 (lv_at hl 0 rfl) ?_
                refine lv_if_eq (tgt := 78) hx hb dX7_causeNow_58 (by decide) (fun hq => ?_) (fun hq => ?_)
                · replace hf := jx_pos hq hf
                  refine lv_iinc (v := (s4 + (1 : Int32))) (lv' := [(4, .int (s4 + (1 : Int32))), (5, .int j7), (0, .ref (a 0)), (1, .int p0), (2, .int p1), (3, .int s1)]) hx hb dX7_causeNow_78 hl (k := 5) rfl rfl (by decide) rfl (fun ls hl => ?_)
                  refine lv_goto (tgt := 11) hx hb dX7_causeNow_81 (by decide) ?_
                  have he := jx_eq hf
                  subst he
                  exact ihk5 (s4 + (1 : Int32)) _ _ _ hgk5 hP hD hS (lv_sub hl [2, 3, 4, 5, 0] rfl)
                · replace hf := jx_neg hq hf
                  refine lv_aload_n hx hb dX7_causeNow_61 rfl (lv_at hl 1 rfl) ?_
                  refine lv_iload hx hb dX7_causeNow_62 (lv_at hl 5 rfl) ?_
                  refine lv_iload_n hx hb dX7_causeNow_64 rfl (lv_at hl 3 rfl) ?_
                  obtain ⟨r10, hc, hf⟩ := jx_bs hf
                  refine jx_ki (wr := []) (ws2 := (wM a cI cL nl np nt nr nh ns nk ne nw na nf nc ng nx)) (jx_runV (As := [.int s4, .int p1]) (rest := []) ⟨hx, hb, hml, hown, hts⟩ (c_X7_clashing l D a cI cL nl np nt nr nh ns nk ne nw na nf nc ng nx s4 p1 r10 hc _) (cwV 2 hts gX7_causeNow_X7_clashing rfl rfl rfl (by decide +kernel) ⟨Nat.le_of_ble_eq_true rfl, Nat.le_of_ble_eq_true rfl⟩) hK hN hP hD [0, 1, 2, 3, 4, 5, 6, 7] rfl (by decide) 0 6 rfl rfl rfl hl.1 rfl (Nat.le_of_ble_eq_true rfl) dX7_causeNow_65 ⟨Nat.le_of_ble_eq_true rfl, Nat.le_of_ble_eq_true rfl⟩) hP hD hS hA [0, 1, 2, 3, 4, 5, 6, 7] [] [0, 1, 2, 3, 4, 5, 6, 7] rfl rfl (by decide) (by decide) rfl (by decide) (fun H locs hP hD hS => ?_)
                  clear hc
                  refine lv_iload_n hx hb dX7_causeNow_68 rfl (lv_at hl 2 rfl) ?_
                  obtain ⟨r11, hc, hf⟩ := jx_bs hf
                  refine jx_ki (wr := [((a 0), .inr (6, [.int nl, .ref (a 1), .int nt, .ref (a 2), .int nh, .ref (a 3), .ref (a 4), .int ne, .int nw, .ref (a 5), .ref (a 6), .int nc, .ref (a 7), .long nx])), ((a 1), .inl (cI, 24, .inl np)), ((a 2), .inl (cI, 108, .inl nr)), ((a 3), .inl (cI, 8, .inl ns)), ((a 4), .inl (cI, 64, .inl nk)), ((a 5), .inl (cI, 8, .inl na)), ((a 6), .inl (cI, 8, .inl nf)), ((a 7), .inl (cI, 48, .inl ng))]) (ws2 := (wM a cI cL nl np nt nr nh ns nk ne nw na nf nc ng nx)) (jx_runS (As := [.int r10, .int p0]) (rest := []) ⟨hx, hb, hml, hown, hts⟩ (c_X7_has l D a cI cL r10 p0 r11 hc _) (va_cwS 2 hts gX7_causeNow_X7_has rfl rfl rfl (by decide +kernel) ⟨Nat.le_of_ble_eq_true rfl, Nat.le_of_ble_eq_true rfl⟩) hK hN hP hD [] rfl (by decide) rfl hl.1 rfl (Nat.le_of_ble_eq_true rfl) dX7_causeNow_69 ⟨Nat.le_of_ble_eq_true rfl, Nat.le_of_ble_eq_true rfl⟩) hP hD hS hA [] [0, 1, 2, 3, 4, 5, 6, 7] [0, 1, 2, 3, 4, 5, 6, 7] rfl rfl (by decide) (by decide) rfl (by decide) (fun H locs hP hD hS => ?_)
                  clear hc
                  refine lv_if_eq (tgt := 78) hx hb dX7_causeNow_72 (by decide) (fun hq => ?_) (fun hq => ?_)
                  · replace hf := jx_pos hq hf
                    refine lv_iinc (v := (s4 + (1 : Int32))) (lv' := [(4, .int (s4 + (1 : Int32))), (5, .int j7), (0, .ref (a 0)), (1, .int p0), (2, .int p1), (3, .int s1)]) hx hb dX7_causeNow_78 hl (k := 5) rfl rfl (by decide) rfl (fun ls hl => ?_)
                    refine lv_goto (tgt := 11) hx hb dX7_causeNow_81 (by decide) ?_
                    have he := jx_eq hf
                    subst he
                    exact ihk5 (s4 + (1 : Int32)) _ _ _ hgk5 hP hD hS (lv_sub hl [2, 3, 4, 5, 0] rfl)
                  · replace hf := jx_neg hq hf
                    refine lv_iload hx hb dX7_causeNow_75 (lv_at hl 5 rfl) ?_
                    have he := jx_eq hf
                    subst he
                    have he : Sum.inr _ = k5 := jx_eq hgk5
                    subst he
                    have hf := hkk5
                    have he := jx_eq hf
                    subst he
                    have he : Sum.inr _ = k2 := jx_eq hgk2
                    subst he
                    have hf := hkk2
                    have he := jx_eq hf
                    subst he
                    exact jx_reti hx hb hr hlocks rfl hK hP hD hS dX7_causeNow_77
              refine lv_if_ne (tgt := 53) hx hb dX7_causeNow_28 (by decide) (fun hq => ?_) (fun hq => ?_)
              · replace hf := jx_pos hq hf
                refine lv_iconst (v := 0) hx hb dX7_causeNow_53 (by decide) ?_
                have he := jx_eq hf
                subst he
                exact hJj7 _ _ _ hP hD hS (lv_sub hl [0, 1, 2, 3, 4] rfl)
              · replace hf := jx_negn hq hf
                refine lv_iload hx hb dX7_causeNow_31 (lv_at hl 4 rfl) ?_
                refine lv_iload_n hx hb dX7_causeNow_33 rfl (lv_at hl 1 rfl) ?_
                obtain ⟨r8, hc, hf⟩ := jx_bs hf
                refine jx_ki (wr := [((a 0), .inr (6, [.int nl, .ref (a 1), .int nt, .ref (a 2), .int nh, .ref (a 3), .ref (a 4), .int ne, .int nw, .ref (a 5), .ref (a 6), .int nc, .ref (a 7), .long nx])), ((a 1), .inl (cI, 24, .inl np)), ((a 2), .inl (cI, 108, .inl nr)), ((a 3), .inl (cI, 8, .inl ns)), ((a 4), .inl (cI, 64, .inl nk)), ((a 5), .inl (cI, 8, .inl na)), ((a 6), .inl (cI, 8, .inl nf)), ((a 7), .inl (cI, 48, .inl ng))]) (ws2 := (wM a cI cL nl np nt nr nh ns nk ne nw na nf nc ng nx)) (jx_runS (As := [.int s4, .int p0]) (rest := []) ⟨hx, hb, hml, hown, hts⟩ (c_X7_has l D a cI cL s4 p0 r8 hc _) (va_cwS 2 hts gX7_causeNow_X7_has rfl rfl rfl (by decide +kernel) ⟨Nat.le_of_ble_eq_true rfl, Nat.le_of_ble_eq_true rfl⟩) hK hN hP hD [] rfl (by decide) rfl hl.1 rfl (Nat.le_of_ble_eq_true rfl) dX7_causeNow_34 ⟨Nat.le_of_ble_eq_true rfl, Nat.le_of_ble_eq_true rfl⟩) hP hD hS hA [] [0, 1, 2, 3, 4, 5, 6, 7] [0, 1, 2, 3, 4, 5, 6, 7] rfl rfl (by decide) (by decide) rfl (by decide) (fun H locs hP hD hS => ?_)
                clear hc
                refine lv_if_eq (tgt := 53) hx hb dX7_causeNow_37 (by decide) (fun hq => ?_) (fun hq => ?_)
                · replace hf := jx_pos hq hf
                  refine lv_iconst (v := 0) hx hb dX7_causeNow_53 (by decide) ?_
                  have he := jx_eq hf
                  subst he
                  exact hJj7 _ _ _ hP hD hS (lv_sub hl [0, 1, 2, 3, 4] rfl)
                · replace hf := jx_neg hq hf
                  refine lv_iload hx hb dX7_causeNow_40 (lv_at hl 4 rfl) ?_
                  obtain ⟨r9, hc, hf⟩ := jx_bs hf
                  refine jx_ki (wr := [((a 0), .inr (6, [.int nl, .ref (a 1), .int nt, .ref (a 2), .int nh, .ref (a 3), .ref (a 4), .int ne, .int nw, .ref (a 5), .ref (a 6), .int nc, .ref (a 7), .long nx])), ((a 1), .inl (cI, 24, .inl np)), ((a 2), .inl (cI, 108, .inl nr)), ((a 3), .inl (cI, 8, .inl ns)), ((a 4), .inl (cI, 64, .inl nk)), ((a 5), .inl (cI, 8, .inl na)), ((a 6), .inl (cI, 8, .inl nf)), ((a 7), .inl (cI, 48, .inl ng))]) (ws2 := (wM a cI cL nl np nt nr nh ns nk ne nw na nf nc ng nx)) (jx_runS (As := [.int s4]) (rest := []) ⟨hx, hb, hml, hown, hts⟩ (c_X7_ones l D a cI cL s4 r9 hc _) (va_cwS 1 hts gX7_causeNow_X7_ones rfl rfl rfl (by decide +kernel) ⟨Nat.le_of_ble_eq_true rfl, Nat.le_of_ble_eq_true rfl⟩) hK hN hP hD [] rfl (by decide) rfl hl.1 rfl (Nat.le_of_ble_eq_true rfl) dX7_causeNow_42 ⟨Nat.le_of_ble_eq_true rfl, Nat.le_of_ble_eq_true rfl⟩) hP hD hS hA [] [0, 1, 2, 3, 4, 5, 6, 7] [0, 1, 2, 3, 4, 5, 6, 7] rfl rfl (by decide) (by decide) rfl (by decide) (fun H locs hP hD hS => ?_)
                  clear hc
                  refine lv_iload_n hx hb dX7_causeNow_45 rfl (lv_at hl 3 rfl) ?_
                  refine lv_icmp_ne (tgt := 53) hx hb dX7_causeNow_46 (by decide) (fun hq => ?_) (fun hq => ?_)
                  · replace hf := jx_pos hq hf
                    refine lv_iconst (v := 0) hx hb dX7_causeNow_53 (by decide) ?_
                    have he := jx_eq hf
                    subst he
                    exact hJj7 _ _ _ hP hD hS (lv_sub hl [0, 1, 2, 3, 4] rfl)
                  · replace hf := jx_negn hq hf
                    refine lv_iconst (v := 1) hx hb dX7_causeNow_49 (by decide) ?_
                    refine lv_goto (tgt := 54) hx hb dX7_causeNow_50 (by decide) ?_
                    have he := jx_eq hf
                    subst he
                    exact hJj7 _ _ _ hP hD hS (lv_sub hl [0, 1, 2, 3, 4] rfl)
        exact hLk5 jx_F (1 : Int32) _ _ _ hf hP hD hS (lv_sub hl [1, 2, 3, 4, 0] rfl)
  exact hLk2 jx_F (1 : Int32) _ _ _ hf hP hD hS (lv_sub hl [1, 2, 3, 0] rfl)
set_option maxHeartbeats 4000000 in
set_option maxRecDepth 100000 in
theorem c_X7_cause (l : Launch) (D : va_G) (a : Nat → Nat) (cI cL : ClassId) (nl : Int32) (np : (Nat → Int32)) (nt : Int32) (nr : (Nat → Int32)) (nh : Int32) (ns : (Nat → Int32)) (nk : (Nat → Int32)) (ne : Int32) (nw : Int32) (na : (Nat → Int32)) (nf : (Nat → Int32)) (nc : Int32) (ng : (Nat → Int32)) (nx : Int64) (p0 : Int32) (p1 : Int32) (res : Int32) (hf : pf_X7_cause nr nh ns nk p0 p1 = some res) : jMi l yX7_cause wsX7_cause ({ frames := 5, cells := 0, slots := 0, locals := 118 }) D [(cI, .int), (cL, .long)] [.ref (a 0), .int p0, .int p1] (wM a cI cL nl np nt nr nh ns nk ne nw na nf nc ng nx) res (wM a cI cL nl np nt nr nh ns nk ne nw na nf nc ng nx) := by
  intro sz
  refine Met.ofW (cc := cX7_cause) (maxL := 3) (ret := (some .int)) (by decide) rfl ?_
  intro p e s m args below meth c s₁ B hml hv
  obtain ⟨rfl, hsz, hP, hK, hD0, hN⟩ := hv
  have hx := B.exec
  have hb := B.bytes
  have hr := B.returns
  have hts := atoms_spec (ws := wsX7_cause) B.pre
  have hown : s.vm.findClass RX7 = some m.cls := findClass_of_methodNamed B.named
  have hlocks := B.notSynchronized
  subst hsz
  have hD := hD0.self (sz := s.heap.size)
  generalize hAe : va_A (wM a cI cL nl np nt nr nh ns nk ne nw na nf nc ng nx) s.heap.size = A at hD ⊢
  have hA : ∀ q : Nat, s.heap.size ≤ q → A q := fun q h => by rw [← hAe]; exact Or.inr h
  have hS : va_S A s.heap s.heap [] := va_S.rf
  have hl := lv_entry ([.ref (a 0), .int p0, .int p1]) (n := 3) (Nat.le_of_ble_eq_true rfl)
  rw [lg_entry_eq]
  generalize (lg_sl ([.ref (a 0), .int p0, .int p1]) ++ List.replicate (3 - (lg_sl ([.ref (a 0), .int p0, .int p1])).length) Slot.unset).toArray = ls at hl ⊢
  have hl : lv_has ls 3 [(0, .ref (a 0)), (1, .int p0), (2, .int p1)] := hl
  have hf : pf_X7_cause nr nh ns nk p0 p1 = some res := hf
  refine lv_aload_n hx hb dX7_cause_0 rfl (lv_at hl 0 rfl) ?_
  refine lv_iload_n hx hb dX7_cause_1 rfl (lv_at hl 1 rfl) ?_
  obtain ⟨r1, hc, hf⟩ := jx_bs hf
  refine jx_ki (wr := []) (ws2 := (wM a cI cL nl np nt nr nh ns nk ne nw na nf nc ng nx)) (jx_runV (As := [.int p0]) (rest := []) ⟨hx, hb, hml, hown, hts⟩ (c_X7_isPart l D a cI cL nl np nt nr nh ns nk ne nw na nf nc ng nx p0 r1 hc _) (cwV 1 hts gX7_cause_X7_isPart rfl rfl rfl (by decide +kernel) ⟨Nat.le_of_ble_eq_true rfl, Nat.le_of_ble_eq_true rfl⟩) hK hN hP hD [0, 1, 2, 3, 4, 5, 6, 7] rfl (by decide) 0 6 rfl rfl rfl hl.1 rfl (Nat.le_of_ble_eq_true rfl) dX7_cause_2 ⟨Nat.le_of_ble_eq_true rfl, Nat.le_of_ble_eq_true rfl⟩) hP hD hS hA [0, 1, 2, 3, 4, 5, 6, 7] [] [0, 1, 2, 3, 4, 5, 6, 7] rfl rfl (by decide) (by decide) rfl (by decide) (fun H locs hP hD hS => ?_)
  clear hc
  refine lv_if_ne (tgt := 12) hx hb dX7_cause_5 (by decide) (fun hq => ?_) (fun hq => ?_)
  · replace hf := jx_pos hq hf
    refine lv_iload_n hx hb dX7_cause_12 rfl (lv_at hl 2 rfl) ?_
    refine lv_iconst (v := 0) hx hb dX7_cause_13 (by decide) ?_
    refine lv_iconst (v := 5) hx hb dX7_cause_14 (by decide) ?_
    obtain ⟨r2, hc, hf⟩ := jx_bs hf
    refine jx_ki (wr := [((a 0), .inr (6, [.int nl, .ref (a 1), .int nt, .ref (a 2), .int nh, .ref (a 3), .ref (a 4), .int ne, .int nw, .ref (a 5), .ref (a 6), .int nc, .ref (a 7), .long nx])), ((a 1), .inl (cI, 24, .inl np)), ((a 2), .inl (cI, 108, .inl nr)), ((a 3), .inl (cI, 8, .inl ns)), ((a 4), .inl (cI, 64, .inl nk)), ((a 5), .inl (cI, 8, .inl na)), ((a 6), .inl (cI, 8, .inl nf)), ((a 7), .inl (cI, 48, .inl ng))]) (ws2 := (wM a cI cL nl np nt nr nh ns nk ne nw na nf nc ng nx)) (jx_runS (As := [.int p1, .int (0 : Int32), .int (5 : Int32)]) (rest := []) ⟨hx, hb, hml, hown, hts⟩ (c_X7_within l D a cI cL p1 (0 : Int32) (5 : Int32) r2 hc _) (va_cwS 3 hts gX7_cause_X7_within rfl rfl rfl (by decide +kernel) ⟨Nat.le_of_ble_eq_true rfl, Nat.le_of_ble_eq_true rfl⟩) hK hN hP hD [] rfl (by decide) rfl hl.1 rfl (Nat.le_of_ble_eq_true rfl) dX7_cause_15 ⟨Nat.le_of_ble_eq_true rfl, Nat.le_of_ble_eq_true rfl⟩) hP hD hS hA [] [0, 1, 2, 3, 4, 5, 6, 7] [0, 1, 2, 3, 4, 5, 6, 7] rfl rfl (by decide) (by decide) rfl (by decide) (fun H locs hP hD hS => ?_)
    clear hc
    refine lv_if_eq (tgt := 30) hx hb dX7_cause_18 (by decide) (fun hq => ?_) (fun hq => ?_)
    · replace hf := jx_pos hq hf
      refine lv_sipush (v := -1002) hx hb dX7_cause_30 (by decide) ?_
      have he := jx_eq hf
      subst he
      exact jx_reti hx hb hr hlocks rfl hK hP hD hS dX7_cause_33
    · replace hf := jx_neg hq hf
      refine lv_aload_n hx hb dX7_cause_21 rfl (lv_at hl 0 rfl) ?_
      refine lv_iload_n hx hb dX7_cause_22 rfl (lv_at hl 1 rfl) ?_
      refine lv_iload_n hx hb dX7_cause_23 rfl (lv_at hl 2 rfl) ?_
      obtain ⟨r3, hc, hf⟩ := jx_bs hf
      refine jx_ki (wr := []) (ws2 := (wM a cI cL nl np nt nr nh ns nk ne nw na nf nc ng nx)) (jx_runV (As := [.int p0, .int p1]) (rest := []) ⟨hx, hb, hml, hown, hts⟩ (c_X7_causeNow l D a cI cL nl np nt nr nh ns nk ne nw na nf nc ng nx p0 p1 r3 hc _) (cwV 2 hts gX7_cause_X7_causeNow rfl rfl rfl (by decide +kernel) ⟨Nat.le_of_ble_eq_true rfl, Nat.le_of_ble_eq_true rfl⟩) hK hN hP hD [0, 1, 2, 3, 4, 5, 6, 7] rfl (by decide) 0 6 rfl rfl rfl hl.1 rfl (Nat.le_of_ble_eq_true rfl) dX7_cause_24 ⟨Nat.le_of_ble_eq_true rfl, Nat.le_of_ble_eq_true rfl⟩) hP hD hS hA [0, 1, 2, 3, 4, 5, 6, 7] [] [0, 1, 2, 3, 4, 5, 6, 7] rfl rfl (by decide) (by decide) rfl (by decide) (fun H locs hP hD hS => ?_)
      clear hc
      refine lv_goto (tgt := 33) hx hb dX7_cause_27 (by decide) ?_
      have he := jx_eq hf
      subst he
      exact jx_reti hx hb hr hlocks rfl hK hP hD hS dX7_cause_33
  · replace hf := jx_negn hq hf
    refine lv_sipush (v := -1001) hx hb dX7_cause_8 (by decide) ?_
    have he := jx_eq hf
    subst he
    exact jx_reti hx hb hr hlocks rfl hK hP hD hS dX7_cause_11
theorem iw_X7_layClashes_X7 : ∀ w ∈ wsX70, w ∈ wsX7_layClashes := by decide +kernel
set_option maxHeartbeats 4000000 in
set_option maxRecDepth 100000 in
theorem c_X7_layClashes (l : Launch) (D : va_G) (a : Nat → Nat) (cI cL : ClassId) (nl : Int32) (np : (Nat → Int32)) (nt : Int32) (nr : (Nat → Int32)) (nh : Int32) (ns : (Nat → Int32)) (nk : (Nat → Int32)) (ne : Int32) (nw : Int32) (na : (Nat → Int32)) (nf : (Nat → Int32)) (nc : Int32) (ng : (Nat → Int32)) (nx : Int64) (res : (Int32 × (Nat → Int32))) (hf : pf_X7_layClashes nr nh ns nk nc ng = some res) : jMv l yX7_layClashes wsX7_layClashes ({ frames := 4, cells := 0, slots := 0, locals := 93 }) D [(cI, .int), (cL, .long)] [.ref (a 0)] (wM a cI cL nl np nt nr nh ns nk ne nw na nf nc ng nx) (wM a cI cL nl np nt nr nh ns nk ne nw na nf res.1 res.2 nx) := by
  intro sz
  refine Met.ofW (cc := cX7_layClashes) (maxL := 3) (ret := none) (by decide) rfl ?_
  intro p e s m args below meth c s₁ B hml hv
  obtain ⟨rfl, hsz, hP, hK, hD0, hN⟩ := hv
  have hx := B.exec
  have hb := B.bytes
  have hr := B.returns
  have hts := atoms_spec (ws := wsX7_layClashes) B.pre
  have hown : s.vm.findClass RX7 = some m.cls := findClass_of_methodNamed B.named
  have hlocks := B.notSynchronized
  subst hsz
  have hD := hD0.self (sz := s.heap.size)
  generalize hAe : va_A (wM a cI cL nl np nt nr nh ns nk ne nw na nf nc ng nx) s.heap.size = A at hD ⊢
  have hA : ∀ q : Nat, s.heap.size ≤ q → A q := fun q h => by rw [← hAe]; exact Or.inr h
  have hS : va_S A s.heap s.heap [] := va_S.rf
  have hl := lv_entry ([.ref (a 0)]) (n := 3) (Nat.le_of_ble_eq_true rfl)
  rw [lg_entry_eq]
  generalize (lg_sl ([.ref (a 0)]) ++ List.replicate (3 - (lg_sl ([.ref (a 0)])).length) Slot.unset).toArray = ls at hl ⊢
  have hl : lv_has ls 3 [(0, .ref (a 0))] := hl
  have hf : pf_X7_layClashes nr nh ns nk nc ng = some res := hf
  refine lv_aload_n hx hb dX7_layClashes_0 rfl (lv_at hl 0 rfl) ?_
  refine lv_iconst (v := 0) hx hb dX7_layClashes_1 (by decide) ?_
  refine va_put (D := D) (ci := 6) (v := .int (0 : Int32)) (ty := .int) (C := RX7) (T := TX7) (N := 14) hx hb hts iw_X7_layClashes_X7 tyX7 tyX7_ok nmX7 hown hK hP hD hS 0 rfl rfl 11 (by decide) (hts (.fieldLink RX7 119 "PassedDutiesModel" "clashes" "I") (by decide +kernel)) (fun _ h9 => h9) rfl (by decide +kernel) rfl rfl (Nat.le_of_ble_eq_true rfl) dX7_layClashes_2 (fun H locs hP hD hS => ?_)
  have hP : va_P D vwCl (wM a cI cL nl np nt nr nh ns nk ne nw na nf (0 : Int32) ng nx) H := hP
  have hD : va_D A (wM a cI cL nl np nt nr nh ns nk ne nw na nf (0 : Int32) ng nx) := hD
  refine lv_iconst (v := 0) hx hb dX7_layClashes_5 (by decide) ?_
  refine lv_istore_n (lv' := [(1, .int (0 : Int32)), (0, .ref (a 0))]) hx hb dX7_layClashes_6 rfl hl (by decide) rfl (fun ls hl => ?_)
  obtain ⟨k2, hf, hkk2⟩ := jx_bs hf
  have hXk2 : ∀ (H : Heap) (locs : List Loc) (ls : Array Slot), va_P D vwCl (wM a cI cL nl np nt nr nh ns nk ne nw na nf k2.1 k2.2 nx) H → va_D A (wM a cI cL nl np nt nr nh ns nk ne nw na nf k2.1 k2.2 nx) → va_S A s.heap H locs → lv_has ls 3 [] → jx_Wv p l e wsX7_layClashes ({ frames := 4, cells := 0, slots := 0, locals := 93 }) s m [.ref (a 0)] below meth c D [(cI, .int), (cL, .long)] (wM a cI cL nl np nt nr nh ns nk ne nw na nf res.1 res.2 nx) A H locs (F0 m 74 ls []) := by
    clear hf hP hD hS hl
    intro H locs ls hP hD hS hl
    have hf := hkk2
    have he := jx_eq hf
    subst he
    exact jx_retv hx hb hr hlocks hK hP hD hS dX7_layClashes_74
  have hLk2 : ∀ (n : Nat) (s1 : (Int32 × Int32 × (Nat → Int32))) (H : Heap) (locs : List Loc) (ls : Array Slot), jx_iter (pf_X7_layClashes_s1 nr nh ns nk) n s1 = some k2 → va_P D vwCl (wM a cI cL nl np nt nr nh ns nk ne nw na nf s1.2.1 s1.2.2 nx) H → va_D A (wM a cI cL nl np nt nr nh ns nk ne nw na nf s1.2.1 s1.2.2 nx) → va_S A s.heap H locs → lv_has ls 3 [(0, .ref (a 0)), (1, .int s1.1)] → jx_Wv p l e wsX7_layClashes ({ frames := 4, cells := 0, slots := 0, locals := 93 }) s m [.ref (a 0)] below meth c D [(cI, .int), (cL, .long)] (wM a cI cL nl np nt nr nh ns nk ne nw na nf res.1 res.2 nx) A H locs (F0 m 7 ls []) := by
    clear hf hP hD hS hl
    intro n
    induction n with
    | zero => intro s1 _ _ _ hf; cases hf
    | succ n ihk2 =>
      intro s1 H locs ls hf hP hD hS hl
      obtain ⟨q3, hf, hgk2⟩ := jx_bs hf
      refine lv_iload_n hx hb dX7_layClashes_7 rfl (lv_at hl 1 rfl) ?_
      refine lv_bipush (v := 8) hx hb dX7_layClashes_8 (by decide) ?_
      refine lv_icmp_ge (tgt := 74) hx hb dX7_layClashes_10 (by decide) (fun hq => ?_) (fun hq => ?_)
      · replace hf := jx_pos hq hf
        have he := jx_eq hf
        subst he
        have he : _ = k2 := jx_eq hgk2
        subst he
        exact hXk2 _ _ _ hP hD hS (lv_sub hl [] rfl)
      · replace hf := jx_neg hq hf
        refine lv_iconst (v := 0) hx hb dX7_layClashes_13 (by decide) ?_
        refine lv_istore_n (lv' := [(2, .int (0 : Int32)), (0, .ref (a 0)), (1, .int s1.1)]) hx hb dX7_layClashes_14 rfl hl (by decide) rfl (fun ls hl => ?_)
        obtain ⟨k5, hf, hkk5⟩ := jx_bs hf
        have hXk5 : ∀ (H : Heap) (locs : List Loc) (ls : Array Slot), va_P D vwCl (wM a cI cL nl np nt nr nh ns nk ne nw na nf k5.1 k5.2 nx) H → va_D A (wM a cI cL nl np nt nr nh ns nk ne nw na nf k5.1 k5.2 nx) → va_S A s.heap H locs → lv_has ls 3 [(0, .ref (a 0)), (1, .int s1.1)] → jx_Wv p l e wsX7_layClashes ({ frames := 4, cells := 0, slots := 0, locals := 93 }) s m [.ref (a 0)] below meth c D [(cI, .int), (cL, .long)] (wM a cI cL nl np nt nr nh ns nk ne nw na nf res.1 res.2 nx) A H locs (F0 m 68 ls []) := by
          clear hf hP hD hS hl
          intro H locs ls hP hD hS hl
          have hf := hkk5
          refine lv_iinc (v := (s1.1 + (1 : Int32))) (lv' := [(1, .int (s1.1 + (1 : Int32))), (0, .ref (a 0))]) hx hb dX7_layClashes_68 hl (k := 1) rfl rfl (by decide) rfl (fun ls hl => ?_)
          refine lv_goto (tgt := 7) hx hb dX7_layClashes_71 (by decide) ?_
          have he := jx_eq hf
          subst he
          exact ihk2 ((s1.1 + (1 : Int32)), k5.1, k5.2) _ _ _ hgk2 hP hD hS (lv_sub hl [1, 0] rfl)
        have hLk5 : ∀ (n : Nat) (s4 : (Int32 × Int32 × (Nat → Int32))) (H : Heap) (locs : List Loc) (ls : Array Slot), jx_iter (pf_X7_layClashes_s2 nr nh ns nk s1) n s4 = some k5 → va_P D vwCl (wM a cI cL nl np nt nr nh ns nk ne nw na nf s4.2.1 s4.2.2 nx) H → va_D A (wM a cI cL nl np nt nr nh ns nk ne nw na nf s4.2.1 s4.2.2 nx) → va_S A s.heap H locs → lv_has ls 3 [(0, .ref (a 0)), (1, .int s1.1), (2, .int s4.1)] → jx_Wv p l e wsX7_layClashes ({ frames := 4, cells := 0, slots := 0, locals := 93 }) s m [.ref (a 0)] below meth c D [(cI, .int), (cL, .long)] (wM a cI cL nl np nt nr nh ns nk ne nw na nf res.1 res.2 nx) A H locs (F0 m 15 ls []) := by
          clear hf hP hD hS hl
          intro n
          induction n with
          | zero => intro s4 _ _ _ hf; cases hf
          | succ n ihk5 =>
            intro s4 H locs ls hf hP hD hS hl
            obtain ⟨q6, hf, hgk5⟩ := jx_bs hf
            refine lv_iload_n hx hb dX7_layClashes_15 rfl (lv_at hl 2 rfl) ?_
            refine lv_bipush (v := 6) hx hb dX7_layClashes_16 (by decide) ?_
            refine lv_icmp_ge (tgt := 68) hx hb dX7_layClashes_18 (by decide) (fun hq => ?_) (fun hq => ?_)
            · replace hf := jx_pos hq hf
              have he := jx_eq hf
              subst he
              have he : _ = k5 := jx_eq hgk5
              subst he
              exact hXk5 _ _ _ hP hD hS (lv_sub hl [0, 1] rfl)
            · replace hf := jx_neg hq hf
              refine lv_aload_n hx hb dX7_layClashes_21 rfl (lv_at hl 0 rfl) ?_
              refine lv_aload_n hx hb dX7_layClashes_22 rfl (lv_at hl 0 rfl) ?_
              refine va_get (D := D) (ci := 6) (v := .int nh) (C := RX7) (T := TX7) (N := 14) hx hb hts iw_X7_layClashes_X7 hown hK hP 0 rfl rfl 4 (by decide) (hts (.fieldLink RX7 65 "PassedDutiesModel" "there" "I") (by decide +kernel)) (fun _ h9 => h9) rfl dX7_layClashes_23 ?_
              refine lv_iload_n hx hb dX7_layClashes_26 rfl (lv_at hl 2 rfl) ?_
              obtain ⟨r7, hc, hf⟩ := jx_bs hf
              refine jx_ki (wr := []) (ws2 := (wM a cI cL nl np nt nr nh ns nk ne nw na nf s4.2.1 s4.2.2 nx)) (jx_runV (As := [.int nh, .int s4.1]) (rest := []) ⟨hx, hb, hml, hown, hts⟩ (c_X7_clashing l D a cI cL nl np nt nr nh ns nk ne nw na nf s4.2.1 s4.2.2 nx nh s4.1 r7 hc _) (cwV 2 hts gX7_layClashes_X7_clashing rfl rfl rfl (by decide +kernel) ⟨Nat.le_of_ble_eq_true rfl, Nat.le_of_ble_eq_true rfl⟩) hK hN hP hD [0, 1, 2, 3, 4, 5, 6, 7] rfl (by decide) 0 6 rfl rfl rfl hl.1 rfl (Nat.le_of_ble_eq_true rfl) dX7_layClashes_27 ⟨Nat.le_of_ble_eq_true rfl, Nat.le_of_ble_eq_true rfl⟩) hP hD hS hA [0, 1, 2, 3, 4, 5, 6, 7] [] [0, 1, 2, 3, 4, 5, 6, 7] rfl rfl (by decide) (by decide) rfl (by decide) (fun H locs hP hD hS => ?_)
              clear hc
              refine lv_iload_n hx hb dX7_layClashes_30 rfl (lv_at hl 1 rfl) ?_
              obtain ⟨r8, hc, hf⟩ := jx_bs hf
              refine jx_ki (wr := [((a 0), .inr (6, [.int nl, .ref (a 1), .int nt, .ref (a 2), .int nh, .ref (a 3), .ref (a 4), .int ne, .int nw, .ref (a 5), .ref (a 6), .int s4.2.1, .ref (a 7), .long nx])), ((a 1), .inl (cI, 24, .inl np)), ((a 2), .inl (cI, 108, .inl nr)), ((a 3), .inl (cI, 8, .inl ns)), ((a 4), .inl (cI, 64, .inl nk)), ((a 5), .inl (cI, 8, .inl na)), ((a 6), .inl (cI, 8, .inl nf)), ((a 7), .inl (cI, 48, .inl s4.2.2))]) (ws2 := (wM a cI cL nl np nt nr nh ns nk ne nw na nf s4.2.1 s4.2.2 nx)) (jx_runS (As := [.int r7, .int s1.1]) (rest := []) ⟨hx, hb, hml, hown, hts⟩ (c_X7_has l D a cI cL r7 s1.1 r8 hc _) (va_cwS 2 hts gX7_layClashes_X7_has rfl rfl rfl (by decide +kernel) ⟨Nat.le_of_ble_eq_true rfl, Nat.le_of_ble_eq_true rfl⟩) hK hN hP hD [] rfl (by decide) rfl hl.1 rfl (Nat.le_of_ble_eq_true rfl) dX7_layClashes_31 ⟨Nat.le_of_ble_eq_true rfl, Nat.le_of_ble_eq_true rfl⟩) hP hD hS hA [] [0, 1, 2, 3, 4, 5, 6, 7] [0, 1, 2, 3, 4, 5, 6, 7] rfl rfl (by decide) (by decide) rfl (by decide) (fun H locs hP hD hS => ?_)
              clear hc
              obtain ⟨j9, hf, hkj9⟩ := jx_bs hf
              have hJj9 : ∀ (H : Heap) (locs : List Loc) (ls : Array Slot), va_P D vwCl (wM a cI cL nl np nt nr nh ns nk ne nw na nf j9.1 j9.2 nx) H → va_D A (wM a cI cL nl np nt nr nh ns nk ne nw na nf j9.1 j9.2 nx) → va_S A s.heap H locs → lv_has ls 3 [(0, .ref (a 0)), (1, .int s1.1), (2, .int s4.1)] → jx_Wv p l e wsX7_layClashes ({ frames := 4, cells := 0, slots := 0, locals := 93 }) s m [.ref (a 0)] below meth c D [(cI, .int), (cL, .long)] (wM a cI cL nl np nt nr nh ns nk ne nw na nf res.1 res.2 nx) A H locs (F0 m 62 ls []) := by
                clear hf hP hD hS hl
                intro H locs ls hP hD hS hl
                have hf := hkj9
                refine lv_iinc (v := (s4.1 + (1 : Int32))) (lv' := [(2, .int (s4.1 + (1 : Int32))), (0, .ref (a 0)), (1, .int s1.1)]) hx hb dX7_layClashes_62 hl (k := 2) rfl rfl (by decide) rfl (fun ls hl => ?_)
                refine lv_goto (tgt := 15) hx hb dX7_layClashes_65 (by decide) ?_
                have he := jx_eq hf
                subst he
                exact ihk5 ((s4.1 + (1 : Int32)), j9.1, j9.2) _ _ _ hgk5 hP hD hS (lv_sub hl [1, 2, 0] rfl)
              refine lv_if_eq (tgt := 62) hx hb dX7_layClashes_34 (by decide) (fun hq => ?_) (fun hq => ?_)
              · replace hf := jx_pos hq hf
                have he := jx_eq hf
                subst he
                exact hJj9 _ _ _ hP hD hS (lv_sub hl [0, 1, 2] rfl)
              · replace hf := jx_neg hq hf
                refine lv_aload_n hx hb dX7_layClashes_37 rfl (lv_at hl 0 rfl) ?_
                refine va_get (D := D) (ci := 6) (v := .ref (a 7)) (C := RX7) (T := TX7) (N := 14) hx hb hts iw_X7_layClashes_X7 hown hK hP 0 rfl rfl 12 (by decide) (hts (.fieldLink RX7 28 "PassedDutiesModel" "clashAt" "[I") (by decide +kernel)) (fun _ h9 => h9) rfl dX7_layClashes_38 ?_
                refine lv_aload_n hx hb dX7_layClashes_41 rfl (lv_at hl 0 rfl) ?_
                refine va_get (D := D) (ci := 6) (v := .int s4.2.1) (C := RX7) (T := TX7) (N := 14) hx hb hts iw_X7_layClashes_X7 hown hK hP 0 rfl rfl 11 (by decide) (hts (.fieldLink RX7 119 "PassedDutiesModel" "clashes" "I") (by decide +kernel)) (fun _ h9 => h9) rfl dX7_layClashes_42 ?_
                refine lv_bipush (v := 6) hx hb dX7_layClashes_45 (by decide) ?_
                refine lv_iload_n hx hb dX7_layClashes_47 rfl (lv_at hl 1 rfl) ?_
                refine lv_imul hx hb dX7_layClashes_48 ?_
                refine lv_iload_n hx hb dX7_layClashes_49 rfl (lv_at hl 2 rfl) ?_
                refine lv_iadd hx hb dX7_layClashes_50 ?_
                obtain ⟨hi, hf⟩ := jx_gs hf
                refine va_iast hx hb hK hP hD hS 7 0 rfl rfl (jx_ip hi) dX7_layClashes_51 (fun H locs hP hD hS => ?_)
                clear hi
                have hP : va_P D vwCl (wM a cI cL nl np nt nr nh ns nk ne nw na nf s4.2.1 (upd s4.2.2 (s4.2.1).toNatClampNeg (((6 : Int32) * s1.1) + s4.1)) nx) H := hP
                have hD : va_D A (wM a cI cL nl np nt nr nh ns nk ne nw na nf s4.2.1 (upd s4.2.2 (s4.2.1).toNatClampNeg (((6 : Int32) * s1.1) + s4.1)) nx) := hD
                refine lv_aload_n hx hb dX7_layClashes_52 rfl (lv_at hl 0 rfl) ?_
                refine lv_dup hx hb dX7_layClashes_53 rfl ?_
                refine va_get (D := D) (ci := 6) (v := .int s4.2.1) (C := RX7) (T := TX7) (N := 14) hx hb hts iw_X7_layClashes_X7 hown hK hP 0 rfl rfl 11 (by decide) (hts (.fieldLink RX7 119 "PassedDutiesModel" "clashes" "I") (by decide +kernel)) (fun _ h9 => h9) rfl dX7_layClashes_54 ?_
                refine lv_iconst (v := 1) hx hb dX7_layClashes_57 (by decide) ?_
                refine lv_iadd hx hb dX7_layClashes_58 ?_
                refine va_put (D := D) (ci := 6) (v := .int (s4.2.1 + (1 : Int32))) (ty := .int) (C := RX7) (T := TX7) (N := 14) hx hb hts iw_X7_layClashes_X7 tyX7 tyX7_ok nmX7 hown hK hP hD hS 0 rfl rfl 11 (by decide) (hts (.fieldLink RX7 119 "PassedDutiesModel" "clashes" "I") (by decide +kernel)) (fun _ h9 => h9) rfl (by decide +kernel) rfl rfl (Nat.le_of_ble_eq_true rfl) dX7_layClashes_59 (fun H locs hP hD hS => ?_)
                have hP : va_P D vwCl (wM a cI cL nl np nt nr nh ns nk ne nw na nf (s4.2.1 + (1 : Int32)) (upd s4.2.2 (s4.2.1).toNatClampNeg (((6 : Int32) * s1.1) + s4.1)) nx) H := hP
                have hD : va_D A (wM a cI cL nl np nt nr nh ns nk ne nw na nf (s4.2.1 + (1 : Int32)) (upd s4.2.2 (s4.2.1).toNatClampNeg (((6 : Int32) * s1.1) + s4.1)) nx) := hD
                have he := jx_eq hf
                subst he
                exact hJj9 _ _ _ hP hD hS (lv_sub hl [0, 1, 2] rfl)
        exact hLk5 jx_F ((0 : Int32), s1.2.1, s1.2.2) _ _ _ hf hP hD hS (lv_sub hl [1, 2, 0] rfl)
  exact hLk2 jx_F ((0 : Int32), (0 : Int32), ng) _ _ _ hf hP hD hS (lv_sub hl [1, 0] rfl)
theorem iw_X7_clash_X7 : ∀ w ∈ wsX70, w ∈ wsX7_clash := by decide +kernel
set_option maxHeartbeats 4000000 in
set_option maxRecDepth 100000 in
theorem c_X7_clash (l : Launch) (D : va_G) (a : Nat → Nat) (cI cL : ClassId) (nl : Int32) (np : (Nat → Int32)) (nt : Int32) (nr : (Nat → Int32)) (nh : Int32) (ns : (Nat → Int32)) (nk : (Nat → Int32)) (ne : Int32) (nw : Int32) (na : (Nat → Int32)) (nf : (Nat → Int32)) (nc : Int32) (ng : (Nat → Int32)) (nx : Int64) (p0 : Int32) (res : (Int32 × Int32 × (Nat → Int32))) (hf : pf_X7_clash nr nh ns nk nc ng p0 = some res) : jMi l yX7_clash wsX7_clash ({ frames := 5, cells := 0, slots := 0, locals := 115 }) D [(cI, .int), (cL, .long)] [.ref (a 0), .int p0] (wM a cI cL nl np nt nr nh ns nk ne nw na nf nc ng nx) res.1 (wM a cI cL nl np nt nr nh ns nk ne nw na nf res.2.1 res.2.2 nx) := by
  intro sz
  refine Met.ofW (cc := cX7_clash) (maxL := 2) (ret := (some .int)) (by decide) rfl ?_
  intro p e s m args below meth c s₁ B hml hv
  obtain ⟨rfl, hsz, hP, hK, hD0, hN⟩ := hv
  have hx := B.exec
  have hb := B.bytes
  have hr := B.returns
  have hts := atoms_spec (ws := wsX7_clash) B.pre
  have hown : s.vm.findClass RX7 = some m.cls := findClass_of_methodNamed B.named
  have hlocks := B.notSynchronized
  subst hsz
  have hD := hD0.self (sz := s.heap.size)
  generalize hAe : va_A (wM a cI cL nl np nt nr nh ns nk ne nw na nf nc ng nx) s.heap.size = A at hD ⊢
  have hA : ∀ q : Nat, s.heap.size ≤ q → A q := fun q h => by rw [← hAe]; exact Or.inr h
  have hS : va_S A s.heap s.heap [] := va_S.rf
  have hl := lv_entry ([.ref (a 0), .int p0]) (n := 2) (Nat.le_of_ble_eq_true rfl)
  rw [lg_entry_eq]
  generalize (lg_sl ([.ref (a 0), .int p0]) ++ List.replicate (2 - (lg_sl ([.ref (a 0), .int p0])).length) Slot.unset).toArray = ls at hl ⊢
  have hl : lv_has ls 2 [(0, .ref (a 0)), (1, .int p0)] := hl
  have hf : pf_X7_clash nr nh ns nk nc ng p0 = some res := hf
  refine lv_aload_n hx hb dX7_clash_0 rfl (lv_at hl 0 rfl) ?_
  obtain ⟨r1, hc, hf⟩ := jx_bs hf
  refine jx_kv (wr := []) (ws2 := (wM a cI cL nl np nt nr nh ns nk ne nw na nf r1.1 r1.2 nx)) (jx_runV (As := []) (rest := []) ⟨hx, hb, hml, hown, hts⟩ (c_X7_layClashes l D a cI cL nl np nt nr nh ns nk ne nw na nf nc ng nx r1 hc _) (cwV 0 hts gX7_clash_X7_layClashes rfl rfl rfl (by decide +kernel) ⟨Nat.le_of_ble_eq_true rfl, Nat.le_of_ble_eq_true rfl⟩) hK hN hP hD [0, 1, 2, 3, 4, 5, 6, 7] rfl (by decide) 0 6 rfl rfl rfl hl.1 rfl (Nat.le_of_ble_eq_true rfl) dX7_clash_1 ⟨Nat.le_of_ble_eq_true rfl, Nat.le_of_ble_eq_true rfl⟩) hP hD hS hA [0, 1, 2, 3, 4, 5, 6, 7] [] [0, 1, 2, 3, 4, 5, 6, 7] rfl rfl (by decide) (by decide) rfl (by decide) (fun H locs hP hD hS => ?_)
  clear hc
  refine lv_iload_n hx hb dX7_clash_4 rfl (lv_at hl 1 rfl) ?_
  refine lv_iconst (v := 0) hx hb dX7_clash_5 (by decide) ?_
  refine lv_aload_n hx hb dX7_clash_6 rfl (lv_at hl 0 rfl) ?_
  refine va_get (D := D) (ci := 6) (v := .int r1.1) (C := RX7) (T := TX7) (N := 14) hx hb hts iw_X7_clash_X7 hown hK hP 0 rfl rfl 11 (by decide) (hts (.fieldLink RX7 119 "PassedDutiesModel" "clashes" "I") (by decide +kernel)) (fun _ h9 => h9) rfl dX7_clash_7 ?_
  refine lv_iconst (v := 1) hx hb dX7_clash_10 (by decide) ?_
  refine lv_isub hx hb dX7_clash_11 ?_
  obtain ⟨r2, hc, hf⟩ := jx_bs hf
  refine jx_ki (wr := [((a 0), .inr (6, [.int nl, .ref (a 1), .int nt, .ref (a 2), .int nh, .ref (a 3), .ref (a 4), .int ne, .int nw, .ref (a 5), .ref (a 6), .int r1.1, .ref (a 7), .long nx])), ((a 1), .inl (cI, 24, .inl np)), ((a 2), .inl (cI, 108, .inl nr)), ((a 3), .inl (cI, 8, .inl ns)), ((a 4), .inl (cI, 64, .inl nk)), ((a 5), .inl (cI, 8, .inl na)), ((a 6), .inl (cI, 8, .inl nf)), ((a 7), .inl (cI, 48, .inl r1.2))]) (ws2 := (wM a cI cL nl np nt nr nh ns nk ne nw na nf r1.1 r1.2 nx)) (jx_runS (As := [.int p0, .int (0 : Int32), .int (r1.1 - (1 : Int32))]) (rest := []) ⟨hx, hb, hml, hown, hts⟩ (c_X7_within l D a cI cL p0 (0 : Int32) (r1.1 - (1 : Int32)) r2 hc _) (va_cwS 3 hts gX7_clash_X7_within rfl rfl rfl (by decide +kernel) ⟨Nat.le_of_ble_eq_true rfl, Nat.le_of_ble_eq_true rfl⟩) hK hN hP hD [] rfl (by decide) rfl hl.1 rfl (Nat.le_of_ble_eq_true rfl) dX7_clash_12 ⟨Nat.le_of_ble_eq_true rfl, Nat.le_of_ble_eq_true rfl⟩) hP hD hS hA [] [0, 1, 2, 3, 4, 5, 6, 7] [0, 1, 2, 3, 4, 5, 6, 7] rfl rfl (by decide) (by decide) rfl (by decide) (fun H locs hP hD hS => ?_)
  clear hc
  refine lv_if_eq (tgt := 27) hx hb dX7_clash_15 (by decide) (fun hq => ?_) (fun hq => ?_)
  · replace hf := jx_pos hq hf
    refine lv_sipush (v := -1001) hx hb dX7_clash_27 (by decide) ?_
    have he := jx_eq hf
    subst he
    exact jx_reti hx hb hr hlocks rfl hK hP hD hS dX7_clash_30
  · replace hf := jx_neg hq hf
    refine lv_aload_n hx hb dX7_clash_18 rfl (lv_at hl 0 rfl) ?_
    refine va_get (D := D) (ci := 6) (v := .ref (a 7)) (C := RX7) (T := TX7) (N := 14) hx hb hts iw_X7_clash_X7 hown hK hP 0 rfl rfl 12 (by decide) (hts (.fieldLink RX7 28 "PassedDutiesModel" "clashAt" "[I") (by decide +kernel)) (fun _ h9 => h9) rfl dX7_clash_19 ?_
    refine lv_iload_n hx hb dX7_clash_22 rfl (lv_at hl 1 rfl) ?_
    obtain ⟨hi, hf⟩ := jx_gs hf
    refine va_iald hx hb hK hP 7 0 rfl rfl (jx_ip hi) dX7_clash_23 ?_
    clear hi
    refine lv_goto (tgt := 30) hx hb dX7_clash_24 (by decide) ?_
    have he := jx_eq hf
    subst he
    exact jx_reti hx hb hr hlocks rfl hK hP hD hS dX7_clash_30
theorem iw_X7_clashMany_X7 : ∀ w ∈ wsX70, w ∈ wsX7_clashMany := by decide +kernel
set_option maxHeartbeats 4000000 in
set_option maxRecDepth 100000 in
theorem c_X7_clashMany (l : Launch) (D : va_G) (a : Nat → Nat) (cI cL : ClassId) (nl : Int32) (np : (Nat → Int32)) (nt : Int32) (nr : (Nat → Int32)) (nh : Int32) (ns : (Nat → Int32)) (nk : (Nat → Int32)) (ne : Int32) (nw : Int32) (na : (Nat → Int32)) (nf : (Nat → Int32)) (nc : Int32) (ng : (Nat → Int32)) (nx : Int64) (p0 : Int32) (res : (Int32 × Int32 × (Nat → Int32))) (hf : pf_X7_clashMany nr nh ns nk nc ng p0 = some res) : jMi l yX7_clashMany wsX7_clashMany ({ frames := 5, cells := 0, slots := 0, locals := 115 }) D [(cI, .int), (cL, .long)] [.ref (a 0), .int p0] (wM a cI cL nl np nt nr nh ns nk ne nw na nf nc ng nx) res.1 (wM a cI cL nl np nt nr nh ns nk ne nw na nf res.2.1 res.2.2 nx) := by
  intro sz
  refine Met.ofW (cc := cX7_clashMany) (maxL := 4) (ret := (some .int)) (by decide) rfl ?_
  intro p e s m args below meth c s₁ B hml hv
  obtain ⟨rfl, hsz, hP, hK, hD0, hN⟩ := hv
  have hx := B.exec
  have hb := B.bytes
  have hr := B.returns
  have hts := atoms_spec (ws := wsX7_clashMany) B.pre
  have hown : s.vm.findClass RX7 = some m.cls := findClass_of_methodNamed B.named
  have hlocks := B.notSynchronized
  subst hsz
  have hD := hD0.self (sz := s.heap.size)
  generalize hAe : va_A (wM a cI cL nl np nt nr nh ns nk ne nw na nf nc ng nx) s.heap.size = A at hD ⊢
  have hA : ∀ q : Nat, s.heap.size ≤ q → A q := fun q h => by rw [← hAe]; exact Or.inr h
  have hS : va_S A s.heap s.heap [] := va_S.rf
  have hl := lv_entry ([.ref (a 0), .int p0]) (n := 4) (Nat.le_of_ble_eq_true rfl)
  rw [lg_entry_eq]
  generalize (lg_sl ([.ref (a 0), .int p0]) ++ List.replicate (4 - (lg_sl ([.ref (a 0), .int p0])).length) Slot.unset).toArray = ls at hl ⊢
  have hl : lv_has ls 4 [(0, .ref (a 0)), (1, .int p0)] := hl
  have hf : pf_X7_clashMany nr nh ns nk nc ng p0 = some res := hf
  refine lv_aload_n hx hb dX7_clashMany_0 rfl (lv_at hl 0 rfl) ?_
  obtain ⟨r1, hc, hf⟩ := jx_bs hf
  refine jx_kv (wr := []) (ws2 := (wM a cI cL nl np nt nr nh ns nk ne nw na nf r1.1 r1.2 nx)) (jx_runV (As := []) (rest := []) ⟨hx, hb, hml, hown, hts⟩ (c_X7_layClashes l D a cI cL nl np nt nr nh ns nk ne nw na nf nc ng nx r1 hc _) (cwV 0 hts gX7_clashMany_X7_layClashes rfl rfl rfl (by decide +kernel) ⟨Nat.le_of_ble_eq_true rfl, Nat.le_of_ble_eq_true rfl⟩) hK hN hP hD [0, 1, 2, 3, 4, 5, 6, 7] rfl (by decide) 0 6 rfl rfl rfl hl.1 rfl (Nat.le_of_ble_eq_true rfl) dX7_clashMany_1 ⟨Nat.le_of_ble_eq_true rfl, Nat.le_of_ble_eq_true rfl⟩) hP hD hS hA [0, 1, 2, 3, 4, 5, 6, 7] [] [0, 1, 2, 3, 4, 5, 6, 7] rfl rfl (by decide) (by decide) rfl (by decide) (fun H locs hP hD hS => ?_)
  clear hc
  refine lv_iconst (v := 0) hx hb dX7_clashMany_4 (by decide) ?_
  refine lv_istore_n (lv' := [(2, .int (0 : Int32)), (0, .ref (a 0)), (1, .int p0)]) hx hb dX7_clashMany_5 rfl hl (by decide) rfl (fun ls hl => ?_)
  refine lv_iconst (v := 0) hx hb dX7_clashMany_6 (by decide) ?_
  refine lv_istore_n (lv' := [(3, .int (0 : Int32)), (2, .int (0 : Int32)), (0, .ref (a 0)), (1, .int p0)]) hx hb dX7_clashMany_7 rfl hl (by decide) rfl (fun ls hl => ?_)
  obtain ⟨k3, hf, hkk3⟩ := jx_bs hf
  have hXk3 : ∀ (H : Heap) (locs : List Loc) (ls : Array Slot), va_P D vwCl (wM a cI cL nl np nt nr nh ns nk ne nw na nf r1.1 r1.2 nx) H → va_D A (wM a cI cL nl np nt nr nh ns nk ne nw na nf r1.1 r1.2 nx) → va_S A s.heap H locs → lv_has ls 4 [(0, .ref (a 0)), (1, .int p0), (2, .int k3)] → jx_Wi p l e wsX7_clashMany ({ frames := 5, cells := 0, slots := 0, locals := 115 }) s m [.ref (a 0), .int p0] below meth c D [(cI, .int), (cL, .long)] (res.1) (wM a cI cL nl np nt nr nh ns nk ne nw na nf res.2.1 res.2.2 nx) A H locs (F0 m 36 ls []) := by
    clear hf hP hD hS hl
    intro H locs ls hP hD hS hl
    have hf := hkk3
    refine lv_iload_n hx hb dX7_clashMany_36 rfl (lv_at hl 1 rfl) ?_
    refine lv_if_eq (tgt := 47) hx hb dX7_clashMany_37 (by decide) (fun hq => ?_) (fun hq => ?_)
    · replace hf := jx_pos hq hf
      refine lv_aload_n hx hb dX7_clashMany_47 rfl (lv_at hl 0 rfl) ?_
      refine va_get (D := D) (ci := 6) (v := .int r1.1) (C := RX7) (T := TX7) (N := 14) hx hb hts iw_X7_clashMany_X7 hown hK hP 0 rfl rfl 11 (by decide) (hts (.fieldLink RX7 119 "PassedDutiesModel" "clashes" "I") (by decide +kernel)) (fun _ h9 => h9) rfl dX7_clashMany_48 ?_
      have he := jx_eq hf
      subst he
      exact jx_reti hx hb hr hlocks rfl hK hP hD hS dX7_clashMany_51
    · replace hf := jx_neg hq hf
      refine lv_iload_n hx hb dX7_clashMany_40 rfl (lv_at hl 2 rfl) ?_
      obtain ⟨r5, hc, hf⟩ := jx_bs hf
      refine jx_ki (wr := [((a 0), .inr (6, [.int nl, .ref (a 1), .int nt, .ref (a 2), .int nh, .ref (a 3), .ref (a 4), .int ne, .int nw, .ref (a 5), .ref (a 6), .int r1.1, .ref (a 7), .long nx])), ((a 1), .inl (cI, 24, .inl np)), ((a 2), .inl (cI, 108, .inl nr)), ((a 3), .inl (cI, 8, .inl ns)), ((a 4), .inl (cI, 64, .inl nk)), ((a 5), .inl (cI, 8, .inl na)), ((a 6), .inl (cI, 8, .inl nf)), ((a 7), .inl (cI, 48, .inl r1.2))]) (ws2 := (wM a cI cL nl np nt nr nh ns nk ne nw na nf r1.1 r1.2 nx)) (jx_runS (As := [.int k3]) (rest := []) ⟨hx, hb, hml, hown, hts⟩ (c_X7_ones l D a cI cL k3 r5 hc _) (va_cwS 1 hts gX7_clashMany_X7_ones rfl rfl rfl (by decide +kernel) ⟨Nat.le_of_ble_eq_true rfl, Nat.le_of_ble_eq_true rfl⟩) hK hN hP hD [] rfl (by decide) rfl hl.1 rfl (Nat.le_of_ble_eq_true rfl) dX7_clashMany_41 ⟨Nat.le_of_ble_eq_true rfl, Nat.le_of_ble_eq_true rfl⟩) hP hD hS hA [] [0, 1, 2, 3, 4, 5, 6, 7] [0, 1, 2, 3, 4, 5, 6, 7] rfl rfl (by decide) (by decide) rfl (by decide) (fun H locs hP hD hS => ?_)
      clear hc
      refine lv_goto (tgt := 51) hx hb dX7_clashMany_44 (by decide) ?_
      have he := jx_eq hf
      subst he
      exact jx_reti hx hb hr hlocks rfl hK hP hD hS dX7_clashMany_51
  have hLk3 : ∀ (n : Nat) (s2 : (Int32 × Int32)) (H : Heap) (locs : List Loc) (ls : Array Slot), jx_iter (pf_X7_clashMany_s1 r1) n s2 = some k3 → va_P D vwCl (wM a cI cL nl np nt nr nh ns nk ne nw na nf r1.1 r1.2 nx) H → va_D A (wM a cI cL nl np nt nr nh ns nk ne nw na nf r1.1 r1.2 nx) → va_S A s.heap H locs → lv_has ls 4 [(0, .ref (a 0)), (1, .int p0), (2, .int s2.1), (3, .int s2.2)] → jx_Wi p l e wsX7_clashMany ({ frames := 5, cells := 0, slots := 0, locals := 115 }) s m [.ref (a 0), .int p0] below meth c D [(cI, .int), (cL, .long)] (res.1) (wM a cI cL nl np nt nr nh ns nk ne nw na nf res.2.1 res.2.2 nx) A H locs (F0 m 8 ls []) := by
    clear hf hP hD hS hl
    intro n
    induction n with
    | zero => intro s2 _ _ _ hf; cases hf
    | succ n ihk3 =>
      intro s2 H locs ls hf hP hD hS hl
      obtain ⟨q4, hf, hgk3⟩ := jx_bs hf
      refine lv_iload_n hx hb dX7_clashMany_8 rfl (lv_at hl 3 rfl) ?_
      refine lv_aload_n hx hb dX7_clashMany_9 rfl (lv_at hl 0 rfl) ?_
      refine va_get (D := D) (ci := 6) (v := .int r1.1) (C := RX7) (T := TX7) (N := 14) hx hb hts iw_X7_clashMany_X7 hown hK hP 0 rfl rfl 11 (by decide) (hts (.fieldLink RX7 119 "PassedDutiesModel" "clashes" "I") (by decide +kernel)) (fun _ h9 => h9) rfl dX7_clashMany_10 ?_
      refine lv_icmp_ge (tgt := 36) hx hb dX7_clashMany_13 (by decide) (fun hq => ?_) (fun hq => ?_)
      · replace hf := jx_pos hq hf
        have he := jx_eq hf
        subst he
        have he : _ = k3 := jx_eq hgk3
        subst he
        exact hXk3 _ _ _ hP hD hS (lv_sub hl [0, 1, 2] rfl)
      · replace hf := jx_neg hq hf
        refine lv_iload_n hx hb dX7_clashMany_16 rfl (lv_at hl 2 rfl) ?_
        refine lv_iconst (v := 1) hx hb dX7_clashMany_17 (by decide) ?_
        refine lv_aload_n hx hb dX7_clashMany_18 rfl (lv_at hl 0 rfl) ?_
        refine va_get (D := D) (ci := 6) (v := .ref (a 7)) (C := RX7) (T := TX7) (N := 14) hx hb hts iw_X7_clashMany_X7 hown hK hP 0 rfl rfl 12 (by decide) (hts (.fieldLink RX7 28 "PassedDutiesModel" "clashAt" "[I") (by decide +kernel)) (fun _ h9 => h9) rfl dX7_clashMany_19 ?_
        refine lv_iload_n hx hb dX7_clashMany_22 rfl (lv_at hl 3 rfl) ?_
        obtain ⟨hi, hf⟩ := jx_gs hf
        refine va_iald hx hb hK hP 7 0 rfl rfl (jx_ip hi) dX7_clashMany_23 ?_
        clear hi
        refine lv_bipush (v := 6) hx hb dX7_clashMany_24 (by decide) ?_
        refine lv_idiv hx hb dX7_clashMany_26 (by decide) ?_
        refine lv_ishl hx hb dX7_clashMany_27 ?_
        refine lv_ior hx hb dX7_clashMany_28 ?_
        refine lv_istore_n (lv' := [(2, .int (s2.1 ||| ((1 : Int32) <<< (((r1.2 (s2.2).toNatClampNeg) / (6 : Int32)) &&& 31)))), (0, .ref (a 0)), (1, .int p0), (3, .int s2.2)]) hx hb dX7_clashMany_29 rfl hl (by decide) rfl (fun ls hl => ?_)
        refine lv_iinc (v := (s2.2 + (1 : Int32))) (lv' := [(3, .int (s2.2 + (1 : Int32))), (2, .int (s2.1 ||| ((1 : Int32) <<< (((r1.2 (s2.2).toNatClampNeg) / (6 : Int32)) &&& 31)))), (0, .ref (a 0)), (1, .int p0)]) hx hb dX7_clashMany_30 hl (k := 3) rfl rfl (by decide) rfl (fun ls hl => ?_)
        refine lv_goto (tgt := 8) hx hb dX7_clashMany_33 (by decide) ?_
        have he := jx_eq hf
        subst he
        exact ihk3 ((s2.1 ||| ((1 : Int32) <<< (((r1.2 (s2.2).toNatClampNeg) / (6 : Int32)) &&& 31))), (s2.2 + (1 : Int32))) _ _ _ hgk3 hP hD hS (lv_sub hl [2, 3, 1, 0] rfl)
  exact hLk3 jx_F ((0 : Int32), (0 : Int32)) _ _ _ hf hP hD hS (lv_sub hl [2, 3, 1, 0] rfl)
