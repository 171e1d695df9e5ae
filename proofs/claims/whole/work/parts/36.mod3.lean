theorem iw_X7_isTerms_X7 : ∀ w ∈ wsX70, w ∈ wsX7_isTerms := by decide +kernel
set_option maxHeartbeats 4000000 in
set_option maxRecDepth 100000 in
theorem c_X7_isTerms (l : Launch) (D : va_G) (a : Nat → Nat) (cI cL : ClassId) (nl : Int32) (np : (Nat → Int32)) (nt : Int32) (nr : (Nat → Int32)) (nh : Int32) (ns : (Nat → Int32)) (nk : (Nat → Int32)) (ne : Int32) (nw : Int32) (na : (Nat → Int32)) (nf : (Nat → Int32)) (nc : Int32) (ng : (Nat → Int32)) (nx : Int64) (p0 : Int32) (res : Int32) (hf : pf_X7_isTerms nt p0 = some res) : jMi l yX7_isTerms wsX7_isTerms ({ frames := 1, cells := 0, slots := 0, locals := 22 }) D [(cI, .int), (cL, .long)] [.ref (a 0), .int p0] (wM a cI cL nl np nt nr nh ns nk ne nw na nf nc ng nx) res (wM a cI cL nl np nt nr nh ns nk ne nw na nf nc ng nx) := by
  intro sz
  refine Met.ofW (cc := cX7_isTerms) (maxL := 2) (ret := (some .boolean)) (by decide) rfl ?_
  intro p e s m args below meth c s₁ B hml hv
  obtain ⟨rfl, hsz, hP, hK, hD0, hN⟩ := hv
  have hx := B.exec
  have hb := B.bytes
  have hr := B.returns
  have hts := atoms_spec (ws := wsX7_isTerms) B.pre
  have hown : s.vm.findClass RX7 = some m.cls := findClass_of_methodNamed B.named
  have hlocks := B.notSynchronized
  subst hsz
  have hD := hD0.self (sz := s.heap.size)
  generalize hAe : va_A (wM a cI cL nl np nt nr nh ns nk ne nw na nf nc ng nx) s.heap.size = A at hD ⊢
  have hA : ∀ q : Nat, s.heap.size ≤ q → A q := fun q h => by rw [← hAe]; exact Or.inr h
  have hS : va_S A s.heap s.heap [] := va_S.rf
  have hl := lv_entry ([.ref (a 0), .int p0]) (n := 2) (Nat.le_of_ble_eq_true rfl)
  rw [lg_entry_eq]
  generalize (lg_sl ([.ref (a 0), .int p0]) ++ List.replicate (2 - (lg_sl ([.ref (a 0), .int p0])).length) Slot.unset).toArray = ls at hl ⊢
  have hl : lv_has ls 2 [(0, .ref (a 0)), (1, .int p0)] := hl
  have hf : pf_X7_isTerms nt p0 = some res := hf
  refine lv_iload_n hx hb dX7_isTerms_0 rfl (lv_at hl 1 rfl) ?_
  refine lv_iconst (v := 0) hx hb dX7_isTerms_1 (by decide) ?_
  refine lv_aload_n hx hb dX7_isTerms_2 rfl (lv_at hl 0 rfl) ?_
  refine va_get (D := D) (ci := 6) (v := .int nt) (C := RX7) (T := TX7) (N := 14) hx hb hts iw_X7_isTerms_X7 hown hK hP 0 rfl rfl 2 (by decide) (hts (.fieldLink RX7 47 "PassedDutiesModel" "termsMany" "I") (by decide +kernel)) (fun _ h9 => h9) rfl dX7_isTerms_3 ?_
  refine lv_iconst (v := 1) hx hb dX7_isTerms_6 (by decide) ?_
  refine lv_isub hx hb dX7_isTerms_7 ?_
  obtain ⟨r1, hc, hf⟩ := jx_bs hf
  refine jx_ki (wr := [((a 0), .inr (6, [.int nl, .ref (a 1), .int nt, .ref (a 2), .int nh, .ref (a 3), .ref (a 4), .int ne, .int nw, .ref (a 5), .ref (a 6), .int nc, .ref (a 7), .long nx])), ((a 1), .inl (cI, 24, .inl np)), ((a 2), .inl (cI, 108, .inl nr)), ((a 3), .inl (cI, 8, .inl ns)), ((a 4), .inl (cI, 64, .inl nk)), ((a 5), .inl (cI, 8, .inl na)), ((a 6), .inl (cI, 8, .inl nf)), ((a 7), .inl (cI, 48, .inl ng))]) (ws2 := (wM a cI cL nl np nt nr nh ns nk ne nw na nf nc ng nx)) (jx_runS (As := [.int p0, .int (0 : Int32), .int (nt - (1 : Int32))]) (rest := []) ⟨hx, hb, hml, hown, hts⟩ (c_X7_within l D a cI cL p0 (0 : Int32) (nt - (1 : Int32)) r1 hc _) (va_cwS 3 hts gX7_isTerms_X7_within rfl rfl rfl (by decide +kernel) ⟨Nat.le_of_ble_eq_true rfl, Nat.le_of_ble_eq_true rfl⟩) hK hN hP hD [] rfl (by decide) rfl hl.1 rfl (Nat.le_of_ble_eq_true rfl) dX7_isTerms_8 ⟨Nat.le_of_ble_eq_true rfl, Nat.le_of_ble_eq_true rfl⟩) hP hD hS hA [] [0, 1, 2, 3, 4, 5, 6, 7] [0, 1, 2, 3, 4, 5, 6, 7] rfl rfl (by decide) (by decide) rfl (by decide) (fun H locs hP hD hS => ?_)
  clear hc
  obtain ⟨hz, hf⟩ := jx_gs hf
  have he := jx_eq hf
  subst he
  exact jx_retz hx hb hr hlocks (jx_nb hz) rfl hK hP hD hS dX7_isTerms_11
theorem iw_X7_give_X7 : ∀ w ∈ wsX70, w ∈ wsX7_give := by decide +kernel
set_option maxHeartbeats 4000000 in
set_option maxRecDepth 100000 in
theorem c_X7_give (l : Launch) (D : va_G) (a : Nat → Nat) (cI cL : ClassId) (nl : Int32) (np : (Nat → Int32)) (nt : Int32) (nr : (Nat → Int32)) (nh : Int32) (ns : (Nat → Int32)) (nk : (Nat → Int32)) (ne : Int32) (nw : Int32) (na : (Nat → Int32)) (nf : (Nat → Int32)) (nc : Int32) (ng : (Nat → Int32)) (nx : Int64) (p0 : Int32) (p1 : Int32) (res : (Int32 × (Nat → Int32))) (hf : pf_X7_give nt nh ns p0 p1 = some res) : jMi l yX7_give wsX7_give ({ frames := 2, cells := 0, slots := 0, locals := 43 }) D [(cI, .int), (cL, .long)] [.ref (a 0), .int p0, .int p1] (wM a cI cL nl np nt nr nh ns nk ne nw na nf nc ng nx) res.1 (wM a cI cL nl np nt nr nh res.2 nk ne nw na nf nc ng nx) := by
  intro sz
  refine Met.ofW (cc := cX7_give) (maxL := 4) (ret := (some .int)) (by decide) rfl ?_
  intro p e s m args below meth c s₁ B hml hv
  obtain ⟨rfl, hsz, hP, hK, hD0, hN⟩ := hv
  have hx := B.exec
  have hb := B.bytes
  have hr := B.returns
  have hts := atoms_spec (ws := wsX7_give) B.pre
  have hown : s.vm.findClass RX7 = some m.cls := findClass_of_methodNamed B.named
  have hlocks := B.notSynchronized
  subst hsz
  have hD := hD0.self (sz := s.heap.size)
  generalize hAe : va_A (wM a cI cL nl np nt nr nh ns nk ne nw na nf nc ng nx) s.heap.size = A at hD ⊢
  have hA : ∀ q : Nat, s.heap.size ≤ q → A q := fun q h => by rw [← hAe]; exact Or.inr h
  have hS : va_S A s.heap s.heap [] := va_S.rf
  have hl := lv_entry ([.ref (a 0), .int p0, .int p1]) (n := 4) (Nat.le_of_ble_eq_true rfl)
  rw [lg_entry_eq]
  generalize (lg_sl ([.ref (a 0), .int p0, .int p1]) ++ List.replicate (4 - (lg_sl ([.ref (a 0), .int p0, .int p1])).length) Slot.unset).toArray = ls at hl ⊢
  have hl : lv_has ls 4 [(0, .ref (a 0)), (1, .int p0), (2, .int p1)] := hl
  have hf : pf_X7_give nt nh ns p0 p1 = some res := hf
  refine lv_aload_n hx hb dX7_give_0 rfl (lv_at hl 0 rfl) ?_
  refine lv_iload_n hx hb dX7_give_1 rfl (lv_at hl 1 rfl) ?_
  obtain ⟨r1, hc, hf⟩ := jx_bs hf
  refine jx_ki (wr := []) (ws2 := (wM a cI cL nl np nt nr nh ns nk ne nw na nf nc ng nx)) (jx_runV (As := [.int p0]) (rest := []) ⟨hx, hb, hml, hown, hts⟩ (c_X7_isPart l D a cI cL nl np nt nr nh ns nk ne nw na nf nc ng nx p0 r1 hc _) (cwV 1 hts gX7_give_X7_isPart rfl rfl rfl (by decide +kernel) ⟨Nat.le_of_ble_eq_true rfl, Nat.le_of_ble_eq_true rfl⟩) hK hN hP hD [0, 1, 2, 3, 4, 5, 6, 7] rfl (by decide) 0 6 rfl rfl rfl hl.1 rfl (Nat.le_of_ble_eq_true rfl) dX7_give_2 ⟨Nat.le_of_ble_eq_true rfl, Nat.le_of_ble_eq_true rfl⟩) hP hD hS hA [0, 1, 2, 3, 4, 5, 6, 7] [] [0, 1, 2, 3, 4, 5, 6, 7] rfl rfl (by decide) (by decide) rfl (by decide) (fun H locs hP hD hS => ?_)
  clear hc
  refine lv_if_eq (tgt := 16) hx hb dX7_give_5 (by decide) (fun hq => ?_) (fun hq => ?_)
  · replace hf := jx_pos hq hf
    refine lv_sipush (v := -1001) hx hb dX7_give_16 (by decide) ?_
    have he := jx_eq hf
    subst he
    exact jx_reti hx hb hr hlocks rfl hK hP hD hS dX7_give_19
  · replace hf := jx_neg hq hf
    refine lv_aload_n hx hb dX7_give_8 rfl (lv_at hl 0 rfl) ?_
    refine lv_iload_n hx hb dX7_give_9 rfl (lv_at hl 2 rfl) ?_
    obtain ⟨r2, hc, hf⟩ := jx_bs hf
    refine jx_ki (wr := []) (ws2 := (wM a cI cL nl np nt nr nh ns nk ne nw na nf nc ng nx)) (jx_runV (As := [.int p1]) (rest := []) ⟨hx, hb, hml, hown, hts⟩ (c_X7_isTerms l D a cI cL nl np nt nr nh ns nk ne nw na nf nc ng nx p1 r2 hc _) (cwV 1 hts gX7_give_X7_isTerms rfl rfl rfl (by decide +kernel) ⟨Nat.le_of_ble_eq_true rfl, Nat.le_of_ble_eq_true rfl⟩) hK hN hP hD [0, 1, 2, 3, 4, 5, 6, 7] rfl (by decide) 0 6 rfl rfl rfl hl.1 rfl (Nat.le_of_ble_eq_true rfl) dX7_give_10 ⟨Nat.le_of_ble_eq_true rfl, Nat.le_of_ble_eq_true rfl⟩) hP hD hS hA [0, 1, 2, 3, 4, 5, 6, 7] [] [0, 1, 2, 3, 4, 5, 6, 7] rfl rfl (by decide) (by decide) rfl (by decide) (fun H locs hP hD hS => ?_)
    clear hc
    refine lv_if_ne (tgt := 20) hx hb dX7_give_13 (by decide) (fun hq => ?_) (fun hq => ?_)
    · replace hf := jx_pos hq hf
      refine lv_aload_n hx hb dX7_give_20 rfl (lv_at hl 0 rfl) ?_
      refine va_get (D := D) (ci := 6) (v := .ref (a 3)) (C := RX7) (T := TX7) (N := 14) hx hb hts iw_X7_give_X7 hown hK hP 0 rfl rfl 5 (by decide) (hts (.fieldLink RX7 16 "PassedDutiesModel" "termsOf" "[I") (by decide +kernel)) (fun _ h9 => h9) rfl dX7_give_21 ?_
      refine lv_iload_n hx hb dX7_give_24 rfl (lv_at hl 1 rfl) ?_
      obtain ⟨hi, hf⟩ := jx_gs hf
      refine va_iald hx hb hK hP 3 0 rfl rfl (jx_ip hi) dX7_give_25 ?_
      clear hi
      refine lv_istore_n (lv' := [(3, .int (ns (p0).toNatClampNeg)), (0, .ref (a 0)), (1, .int p0), (2, .int p1)]) hx hb dX7_give_26 rfl hl (by decide) rfl (fun ls hl => ?_)
      refine lv_aload_n hx hb dX7_give_27 rfl (lv_at hl 1 rfl) ?_
      refine va_get (D := D) (ci := 6) (v := .ref (a 3)) (C := RX7) (T := TX7) (N := 14) hx hb hts iw_X7_give_X7 hown hK hP 0 rfl rfl 5 (by decide) (hts (.fieldLink RX7 16 "PassedDutiesModel" "termsOf" "[I") (by decide +kernel)) (fun _ h9 => h9) rfl dX7_give_28 ?_
      refine lv_iload_n hx hb dX7_give_31 rfl (lv_at hl 2 rfl) ?_
      refine lv_iload_n hx hb dX7_give_32 rfl (lv_at hl 3 rfl) ?_
      obtain ⟨hi, hf⟩ := jx_gs hf
      refine va_iast hx hb hK hP hD hS 3 0 rfl rfl (jx_ip hi) dX7_give_33 (fun H locs hP hD hS => ?_)
      clear hi
      have hP : va_P D vwCl (wM a cI cL nl np nt nr nh (upd ns (p0).toNatClampNeg p1) nk ne nw na nf nc ng nx) H := hP
      have hD : va_D A (wM a cI cL nl np nt nr nh (upd ns (p0).toNatClampNeg p1) nk ne nw na nf nc ng nx) := hD
      refine lv_iload_n hx hb dX7_give_34 rfl (lv_at hl 0 rfl) ?_
      have he := jx_eq hf
      subst he
      exact jx_reti hx hb hr hlocks rfl hK hP hD hS dX7_give_35
    · replace hf := jx_negn hq hf
      refine lv_sipush (v := -1001) hx hb dX7_give_16 (by decide) ?_
      have he := jx_eq hf
      subst he
      exact jx_reti hx hb hr hlocks rfl hK hP hD hS dX7_give_19
set_option maxHeartbeats 4000000 in
set_option maxRecDepth 100000 in
theorem c_X7_held (l : Launch) (D : va_G) (a : Nat → Nat) (cI cL : ClassId) (nl : Int32) (np : (Nat → Int32)) (nt : Int32) (nr : (Nat → Int32)) (nh : Int32) (ns : (Nat → Int32)) (nk : (Nat → Int32)) (ne : Int32) (nw : Int32) (na : (Nat → Int32)) (nf : (Nat → Int32)) (nc : Int32) (ng : (Nat → Int32)) (nx : Int64) (p0 : Int32) (p1 : Int32) (res : Int32) (hf : pf_X7_held nr nh ns nk p0 p1 = some res) : jMi l yX7_held wsX7_held ({ frames := 3, cells := 0, slots := 0, locals := 72 }) D [(cI, .int), (cL, .long)] [.ref (a 0), .int p0, .int p1] (wM a cI cL nl np nt nr nh ns nk ne nw na nf nc ng nx) res (wM a cI cL nl np nt nr nh ns nk ne nw na nf nc ng nx) := by
  intro sz
  refine Met.ofW (cc := cX7_held) (maxL := 3) (ret := (some .int)) (by decide) rfl ?_
  intro p e s m args below meth c s₁ B hml hv
  obtain ⟨rfl, hsz, hP, hK, hD0, hN⟩ := hv
  have hx := B.exec
  have hb := B.bytes
  have hr := B.returns
  have hts := atoms_spec (ws := wsX7_held) B.pre
  have hown : s.vm.findClass RX7 = some m.cls := findClass_of_methodNamed B.named
  have hlocks := B.notSynchronized
  subst hsz
  have hD := hD0.self (sz := s.heap.size)
  generalize hAe : va_A (wM a cI cL nl np nt nr nh ns nk ne nw na nf nc ng nx) s.heap.size = A at hD ⊢
  have hA : ∀ q : Nat, s.heap.size ≤ q → A q := fun q h => by rw [← hAe]; exact Or.inr h
  have hS : va_S A s.heap s.heap [] := va_S.rf
  have hl := lv_entry ([.ref (a 0), .int p0, .int p1]) (n := 3) (Nat.le_of_ble_eq_true rfl)
  rw [lg_entry_eq]
  generalize (lg_sl ([.ref (a 0), .int p0, .int p1]) ++ List.replicate (3 - (lg_sl ([.ref (a 0), .int p0, .int p1])).length) Slot.unset).toArray = ls at hl ⊢
  have hl : lv_has ls 3 [(0, .ref (a 0)), (1, .int p0), (2, .int p1)] := hl
  have hf : pf_X7_held nr nh ns nk p0 p1 = some res := hf
  refine lv_aload_n hx hb dX7_held_0 rfl (lv_at hl 0 rfl) ?_
  refine lv_iload_n hx hb dX7_held_1 rfl (lv_at hl 1 rfl) ?_
  obtain ⟨r1, hc, hf⟩ := jx_bs hf
  refine jx_ki (wr := []) (ws2 := (wM a cI cL nl np nt nr nh ns nk ne nw na nf nc ng nx)) (jx_runV (As := [.int p0]) (rest := []) ⟨hx, hb, hml, hown, hts⟩ (c_X7_isPart l D a cI cL nl np nt nr nh ns nk ne nw na nf nc ng nx p0 r1 hc _) (cwV 1 hts gX7_held_X7_isPart rfl rfl rfl (by decide +kernel) ⟨Nat.le_of_ble_eq_true rfl, Nat.le_of_ble_eq_true rfl⟩) hK hN hP hD [0, 1, 2, 3, 4, 5, 6, 7] rfl (by decide) 0 6 rfl rfl rfl hl.1 rfl (Nat.le_of_ble_eq_true rfl) dX7_held_2 ⟨Nat.le_of_ble_eq_true rfl, Nat.le_of_ble_eq_true rfl⟩) hP hD hS hA [0, 1, 2, 3, 4, 5, 6, 7] [] [0, 1, 2, 3, 4, 5, 6, 7] rfl rfl (by decide) (by decide) rfl (by decide) (fun H locs hP hD hS => ?_)
  clear hc
  refine lv_if_ne (tgt := 12) hx hb dX7_held_5 (by decide) (fun hq => ?_) (fun hq => ?_)
  · replace hf := jx_pos hq hf
    refine lv_iload_n hx hb dX7_held_12 rfl (lv_at hl 2 rfl) ?_
    refine lv_iconst (v := 0) hx hb dX7_held_13 (by decide) ?_
    refine lv_bipush (v := 11) hx hb dX7_held_14 (by decide) ?_
    obtain ⟨r2, hc, hf⟩ := jx_bs hf
    refine jx_ki (wr := [((a 0), .inr (6, [.int nl, .ref (a 1), .int nt, .ref (a 2), .int nh, .ref (a 3), .ref (a 4), .int ne, .int nw, .ref (a 5), .ref (a 6), .int nc, .ref (a 7), .long nx])), ((a 1), .inl (cI, 24, .inl np)), ((a 2), .inl (cI, 108, .inl nr)), ((a 3), .inl (cI, 8, .inl ns)), ((a 4), .inl (cI, 64, .inl nk)), ((a 5), .inl (cI, 8, .inl na)), ((a 6), .inl (cI, 8, .inl nf)), ((a 7), .inl (cI, 48, .inl ng))]) (ws2 := (wM a cI cL nl np nt nr nh ns nk ne nw na nf nc ng nx)) (jx_runS (As := [.int p1, .int (0 : Int32), .int (11 : Int32)]) (rest := []) ⟨hx, hb, hml, hown, hts⟩ (c_X7_within l D a cI cL p1 (0 : Int32) (11 : Int32) r2 hc _) (va_cwS 3 hts gX7_held_X7_within rfl rfl rfl (by decide +kernel) ⟨Nat.le_of_ble_eq_true rfl, Nat.le_of_ble_eq_true rfl⟩) hK hN hP hD [] rfl (by decide) rfl hl.1 rfl (Nat.le_of_ble_eq_true rfl) dX7_held_16 ⟨Nat.le_of_ble_eq_true rfl, Nat.le_of_ble_eq_true rfl⟩) hP hD hS hA [] [0, 1, 2, 3, 4, 5, 6, 7] [0, 1, 2, 3, 4, 5, 6, 7] rfl rfl (by decide) (by decide) rfl (by decide) (fun H locs hP hD hS => ?_)
    clear hc
    refine lv_if_eq (tgt := 31) hx hb dX7_held_19 (by decide) (fun hq => ?_) (fun hq => ?_)
    · replace hf := jx_pos hq hf
      refine lv_sipush (v := -1002) hx hb dX7_held_31 (by decide) ?_
      have he := jx_eq hf
      subst he
      exact jx_reti hx hb hr hlocks rfl hK hP hD hS dX7_held_34
    · replace hf := jx_neg hq hf
      refine lv_aload_n hx hb dX7_held_22 rfl (lv_at hl 0 rfl) ?_
      refine lv_iload_n hx hb dX7_held_23 rfl (lv_at hl 1 rfl) ?_
      refine lv_iload_n hx hb dX7_held_24 rfl (lv_at hl 2 rfl) ?_
      obtain ⟨r3, hc, hf⟩ := jx_bs hf
      refine jx_ki (wr := []) (ws2 := (wM a cI cL nl np nt nr nh ns nk ne nw na nf nc ng nx)) (jx_runV (As := [.int p0, .int p1]) (rest := []) ⟨hx, hb, hml, hown, hts⟩ (c_X7_heldNow l D a cI cL nl np nt nr nh ns nk ne nw na nf nc ng nx p0 p1 r3 hc _) (cwV 2 hts gX7_held_X7_heldNow rfl rfl rfl (by decide +kernel) ⟨Nat.le_of_ble_eq_true rfl, Nat.le_of_ble_eq_true rfl⟩) hK hN hP hD [0, 1, 2, 3, 4, 5, 6, 7] rfl (by decide) 0 6 rfl rfl rfl hl.1 rfl (Nat.le_of_ble_eq_true rfl) dX7_held_25 ⟨Nat.le_of_ble_eq_true rfl, Nat.le_of_ble_eq_true rfl⟩) hP hD hS hA [0, 1, 2, 3, 4, 5, 6, 7] [] [0, 1, 2, 3, 4, 5, 6, 7] rfl rfl (by decide) (by decide) rfl (by decide) (fun H locs hP hD hS => ?_)
      clear hc
      refine lv_goto (tgt := 34) hx hb dX7_held_28 (by decide) ?_
      have he := jx_eq hf
      subst he
      exact jx_reti hx hb hr hlocks rfl hK hP hD hS dX7_held_34
  · replace hf := jx_negn hq hf
    refine lv_sipush (v := -1001) hx hb dX7_held_8 (by decide) ?_
    have he := jx_eq hf
    subst he
    exact jx_reti hx hb hr hlocks rfl hK hP hD hS dX7_held_11
theorem iw_X7_isLooser_X7 : ∀ w ∈ wsX70, w ∈ wsX7_isLooser := by decide +kernel
set_option maxHeartbeats 4000000 in
set_option maxRecDepth 100000 in
theorem c_X7_isLooser (l : Launch) (D : va_G) (a : Nat → Nat) (cI cL : ClassId) (nl : Int32) (np : (Nat → Int32)) (nt : Int32) (nr : (Nat → Int32)) (nh : Int32) (ns : (Nat → Int32)) (nk : (Nat → Int32)) (ne : Int32) (nw : Int32) (na : (Nat → Int32)) (nf : (Nat → Int32)) (nc : Int32) (ng : (Nat → Int32)) (nx : Int64) (p0 : Int32) (p1 : Int32) (res : Int32) (hf : pf_X7_isLooser nr p0 p1 = some res) : jMi l yX7_isLooser wsX7_isLooser ({ frames := 0, cells := 0, slots := 0, locals := 0 }) D [(cI, .int), (cL, .long)] [.ref (a 0), .int p0, .int p1] (wM a cI cL nl np nt nr nh ns nk ne nw na nf nc ng nx) res (wM a cI cL nl np nt nr nh ns nk ne nw na nf nc ng nx) := by
  intro sz
  refine Met.ofW (cc := cX7_isLooser) (maxL := 5) (ret := (some .boolean)) (by decide) rfl ?_
  intro p e s m args below meth c s₁ B hml hv
  obtain ⟨rfl, hsz, hP, hK, hD0, hN⟩ := hv
  have hx := B.exec
  have hb := B.bytes
  have hr := B.returns
  have hts := atoms_spec (ws := wsX7_isLooser) B.pre
  have hown : s.vm.findClass RX7 = some m.cls := findClass_of_methodNamed B.named
  have hlocks := B.notSynchronized
  subst hsz
  have hD := hD0.self (sz := s.heap.size)
  generalize hAe : va_A (wM a cI cL nl np nt nr nh ns nk ne nw na nf nc ng nx) s.heap.size = A at hD ⊢
  have hA : ∀ q : Nat, s.heap.size ≤ q → A q := fun q h => by rw [← hAe]; exact Or.inr h
  have hS : va_S A s.heap s.heap [] := va_S.rf
  have hl := lv_entry ([.ref (a 0), .int p0, .int p1]) (n := 5) (Nat.le_of_ble_eq_true rfl)
  rw [lg_entry_eq]
  generalize (lg_sl ([.ref (a 0), .int p0, .int p1]) ++ List.replicate (5 - (lg_sl ([.ref (a 0), .int p0, .int p1])).length) Slot.unset).toArray = ls at hl ⊢
  have hl : lv_has ls 5 [(0, .ref (a 0)), (1, .int p0), (2, .int p1)] := hl
  have hf : pf_X7_isLooser nr p0 p1 = some res := hf
  refine lv_iconst (v := 1) hx hb dX7_isLooser_0 (by decide) ?_
  refine lv_istore_n (lv' := [(3, .int (1 : Int32)), (0, .ref (a 0)), (1, .int p0), (2, .int p1)]) hx hb dX7_isLooser_1 rfl hl (by decide) rfl (fun ls hl => ?_)
  refine lv_iconst (v := 0) hx hb dX7_isLooser_2 (by decide) ?_
  refine lv_istore (lv' := [(4, .int (0 : Int32)), (3, .int (1 : Int32)), (0, .ref (a 0)), (1, .int p0), (2, .int p1)]) hx hb dX7_isLooser_3 hl (by decide) rfl (fun ls hl => ?_)
  obtain ⟨k2, hf, hkk2⟩ := jx_bs hf
  have hXk2 : ∀ (H : Heap) (locs : List Loc) (ls : Array Slot), va_P D vwCl (wM a cI cL nl np nt nr nh ns nk ne nw na nf nc ng nx) H → va_D A (wM a cI cL nl np nt nr nh ns nk ne nw na nf nc ng nx) → va_S A s.heap H locs → lv_has ls 5 [(3, .int k2)] → jx_Wi p l e wsX7_isLooser ({ frames := 0, cells := 0, slots := 0, locals := 0 }) s m [.ref (a 0), .int p0, .int p1] below meth c D [(cI, .int), (cL, .long)] res (wM a cI cL nl np nt nr nh ns nk ne nw na nf nc ng nx) A H locs (F0 m 55 ls []) := by
    clear hf hP hD hS hl
    intro H locs ls hP hD hS hl
    have hf := hkk2
    refine lv_iload_n hx hb dX7_isLooser_55 rfl (lv_at hl 0 rfl) ?_
    obtain ⟨hz, hf⟩ := jx_gs hf
    have he := jx_eq hf
    subst he
    exact jx_retz hx hb hr hlocks (jx_nb hz) rfl hK hP hD hS dX7_isLooser_56
  have hLk2 : ∀ (n : Nat) (s1 : (Int32 × Int32)) (H : Heap) (locs : List Loc) (ls : Array Slot), jx_iter (pf_X7_isLooser_s1 nr p0 p1) n s1 = some k2 → va_P D vwCl (wM a cI cL nl np nt nr nh ns nk ne nw na nf nc ng nx) H → va_D A (wM a cI cL nl np nt nr nh ns nk ne nw na nf nc ng nx) → va_S A s.heap H locs → lv_has ls 5 [(0, .ref (a 0)), (1, .int p0), (2, .int p1), (3, .int s1.1), (4, .int s1.2)] → jx_Wi p l e wsX7_isLooser ({ frames := 0, cells := 0, slots := 0, locals := 0 }) s m [.ref (a 0), .int p0, .int p1] below meth c D [(cI, .int), (cL, .long)] res (wM a cI cL nl np nt nr nh ns nk ne nw na nf nc ng nx) A H locs (F0 m 5 ls []) := by
    clear hf hP hD hS hl
    intro n
    induction n with
    | zero => intro s1 _ _ _ hf; cases hf
    | succ n ihk2 =>
      intro s1 H locs ls hf hP hD hS hl
      obtain ⟨q3, hf, hgk2⟩ := jx_bs hf
      refine lv_iload hx hb dX7_isLooser_5 (lv_at hl 4 rfl) ?_
      refine lv_bipush (v := 12) hx hb dX7_isLooser_7 (by decide) ?_
      refine lv_icmp_ge (tgt := 55) hx hb dX7_isLooser_9 (by decide) (fun hq => ?_) (fun hq => ?_)
      · replace hf := jx_pos hq hf
        have he := jx_eq hf
        subst he
        have he : _ = k2 := jx_eq hgk2
        subst he
        exact hXk2 _ _ _ hP hD hS (lv_sub hl [3] rfl)
      · replace hf := jx_neg hq hf
        refine lv_iload_n hx hb dX7_isLooser_12 rfl (lv_at hl 3 rfl) ?_
        obtain ⟨j4, hf, hkj4⟩ := jx_bs hf
        have hJj4 : ∀ (H : Heap) (locs : List Loc) (ls : Array Slot), va_P D vwCl (wM a cI cL nl np nt nr nh ns nk ne nw na nf nc ng nx) H → va_D A (wM a cI cL nl np nt nr nh ns nk ne nw na nf nc ng nx) → va_S A s.heap H locs → lv_has ls 5 [(0, .ref (a 0)), (1, .int p0), (2, .int p1), (4, .int s1.2)] → jx_Wi p l e wsX7_isLooser ({ frames := 0, cells := 0, slots := 0, locals := 0 }) s m [.ref (a 0), .int p0, .int p1] below meth c D [(cI, .int), (cL, .long)] res (wM a cI cL nl np nt nr nh ns nk ne nw na nf nc ng nx) A H locs (F0 m 48 ls [.int j4]) := by
          clear hf hP hD hS hl
          intro H locs ls hP hD hS hl
          have hf := hkj4
          refine lv_istore_n (lv' := [(3, .int j4), (0, .ref (a 0)), (1, .int p0), (2, .int p1), (4, .int s1.2)]) hx hb dX7_isLooser_48 rfl hl (by decide) rfl (fun ls hl => ?_)
          refine lv_iinc (v := (s1.2 + (1 : Int32))) (lv' := [(4, .int (s1.2 + (1 : Int32))), (3, .int j4), (0, .ref (a 0)), (1, .int p0), (2, .int p1)]) hx hb dX7_isLooser_49 hl (k := 4) rfl rfl (by decide) rfl (fun ls hl => ?_)
          refine lv_goto (tgt := 5) hx hb dX7_isLooser_52 (by decide) ?_
          have he := jx_eq hf
          subst he
          exact ihk2 (j4, (s1.2 + (1 : Int32))) _ _ _ hgk2 hP hD hS (lv_sub hl [2, 3, 4, 1, 0] rfl)
        refine lv_if_eq (tgt := 47) hx hb dX7_isLooser_13 (by decide) (fun hq => ?_) (fun hq => ?_)
        · replace hf := jx_pos hq hf
          refine lv_iconst (v := 0) hx hb dX7_isLooser_47 (by decide) ?_
          have he := jx_eq hf
          subst he
          exact hJj4 _ _ _ hP hD hS (lv_sub hl [0, 1, 2, 4] rfl)
        · replace hf := jx_neg hq hf
          refine lv_aload_n hx hb dX7_isLooser_16 rfl (lv_at hl 0 rfl) ?_
          refine va_get (D := D) (ci := 6) (v := .ref (a 2)) (C := RX7) (T := TX7) (N := 14) hx hb hts iw_X7_isLooser_X7 hown hK hP 0 rfl rfl 3 (by decide) (hts (.fieldLink RX7 13 "PassedDutiesModel" "reaches" "[I") (by decide +kernel)) (fun _ h9 => h9) rfl dX7_isLooser_17 ?_
          refine lv_bipush (v := 12) hx hb dX7_isLooser_20 (by decide) ?_
          refine lv_iload_n hx hb dX7_isLooser_22 rfl (lv_at hl 1 rfl) ?_
          refine lv_imul hx hb dX7_isLooser_23 ?_
          refine lv_iload hx hb dX7_isLooser_24 (lv_at hl 4 rfl) ?_
          refine lv_iadd hx hb dX7_isLooser_26 ?_
          obtain ⟨hi, hf⟩ := jx_gs hf
          refine va_iald hx hb hK hP 2 0 rfl rfl (jx_ip hi) dX7_isLooser_27 ?_
          clear hi
          refine lv_aload_n hx hb dX7_isLooser_28 rfl (lv_at hl 0 rfl) ?_
          refine va_get (D := D) (ci := 6) (v := .ref (a 2)) (C := RX7) (T := TX7) (N := 14) hx hb hts iw_X7_isLooser_X7 hown hK hP 0 rfl rfl 3 (by decide) (hts (.fieldLink RX7 13 "PassedDutiesModel" "reaches" "[I") (by decide +kernel)) (fun _ h9 => h9) rfl dX7_isLooser_29 ?_
          refine lv_bipush (v := 12) hx hb dX7_isLooser_32 (by decide) ?_
          refine lv_iload_n hx hb dX7_isLooser_34 rfl (lv_at hl 2 rfl) ?_
          refine lv_imul hx hb dX7_isLooser_35 ?_
          refine lv_iload hx hb dX7_isLooser_36 (lv_at hl 4 rfl) ?_
          refine lv_iadd hx hb dX7_isLooser_38 ?_
          obtain ⟨hi, hf⟩ := jx_gs hf
          refine va_iald hx hb hK hP 2 0 rfl rfl (jx_ip hi) dX7_isLooser_39 ?_
          clear hi
          refine lv_icmp_gt (tgt := 47) hx hb dX7_isLooser_40 (by decide) (fun hq => ?_) (fun hq => ?_)
          · replace hf := jx_pos hq hf
            refine lv_iconst (v := 0) hx hb dX7_isLooser_47 (by decide) ?_
            have he := jx_eq hf
            subst he
            exact hJj4 _ _ _ hP hD hS (lv_sub hl [0, 1, 2, 4] rfl)
          · replace hf := jx_neg hq hf
            refine lv_iconst (v := 1) hx hb dX7_isLooser_43 (by decide) ?_
            refine lv_goto (tgt := 48) hx hb dX7_isLooser_44 (by decide) ?_
            have he := jx_eq hf
            subst he
            exact hJj4 _ _ _ hP hD hS (lv_sub hl [0, 1, 2, 4] rfl)
  exact hLk2 jx_F ((1 : Int32), (0 : Int32)) _ _ _ hf hP hD hS (lv_sub hl [2, 3, 4, 1, 0] rfl)
theorem iw_X7_join_X7 : ∀ w ∈ wsX70, w ∈ wsX7_join := by decide +kernel
set_option maxHeartbeats 4000000 in
set_option maxRecDepth 100000 in
theorem c_X7_join (l : Launch) (D : va_G) (a : Nat → Nat) (cI cL : ClassId) (nl : Int32) (np : (Nat → Int32)) (nt : Int32) (nr : (Nat → Int32)) (nh : Int32) (ns : (Nat → Int32)) (nk : (Nat → Int32)) (ne : Int32) (nw : Int32) (na : (Nat → Int32)) (nf : (Nat → Int32)) (nc : Int32) (ng : (Nat → Int32)) (nx : Int64) (p0 : Int32) (p1 : Int32) (p2 : Int32) (res : (Int32 × (Nat → Int32))) (hf : pf_X7_join nh nk p0 p1 p2 = some res) : jMi l yX7_join wsX7_join ({ frames := 2, cells := 0, slots := 0, locals := 43 }) D [(cI, .int), (cL, .long)] [.ref (a 0), .int p0, .int p1, .int p2] (wM a cI cL nl np nt nr nh ns nk ne nw na nf nc ng nx) res.1 (wM a cI cL nl np nt nr nh ns res.2 ne nw na nf nc ng nx) := by
  intro sz
  refine Met.ofW (cc := cX7_join) (maxL := 5) (ret := (some .int)) (by decide) rfl ?_
  intro p e s m args below meth c s₁ B hml hv
  obtain ⟨rfl, hsz, hP, hK, hD0, hN⟩ := hv
  have hx := B.exec
  have hb := B.bytes
  have hr := B.returns
  have hts := atoms_spec (ws := wsX7_join) B.pre
  have hown : s.vm.findClass RX7 = some m.cls := findClass_of_methodNamed B.named
  have hlocks := B.notSynchronized
  subst hsz
  have hD := hD0.self (sz := s.heap.size)
  generalize hAe : va_A (wM a cI cL nl np nt nr nh ns nk ne nw na nf nc ng nx) s.heap.size = A at hD ⊢
  have hA : ∀ q : Nat, s.heap.size ≤ q → A q := fun q h => by rw [← hAe]; exact Or.inr h
  have hS : va_S A s.heap s.heap [] := va_S.rf
  have hl := lv_entry ([.ref (a 0), .int p0, .int p1, .int p2]) (n := 5) (Nat.le_of_ble_eq_true rfl)
  rw [lg_entry_eq]
  generalize (lg_sl ([.ref (a 0), .int p0, .int p1, .int p2]) ++ List.replicate (5 - (lg_sl ([.ref (a 0), .int p0, .int p1, .int p2])).length) Slot.unset).toArray = ls at hl ⊢
  have hl : lv_has ls 5 [(0, .ref (a 0)), (1, .int p0), (2, .int p1), (3, .int p2)] := hl
  have hf : pf_X7_join nh nk p0 p1 p2 = some res := hf
  refine lv_aload_n hx hb dX7_join_0 rfl (lv_at hl 0 rfl) ?_
  refine lv_iload_n hx hb dX7_join_1 rfl (lv_at hl 1 rfl) ?_
  obtain ⟨r1, hc, hf⟩ := jx_bs hf
  refine jx_ki (wr := []) (ws2 := (wM a cI cL nl np nt nr nh ns nk ne nw na nf nc ng nx)) (jx_runV (As := [.int p0]) (rest := []) ⟨hx, hb, hml, hown, hts⟩ (c_X7_isPart l D a cI cL nl np nt nr nh ns nk ne nw na nf nc ng nx p0 r1 hc _) (cwV 1 hts gX7_join_X7_isPart rfl rfl rfl (by decide +kernel) ⟨Nat.le_of_ble_eq_true rfl, Nat.le_of_ble_eq_true rfl⟩) hK hN hP hD [0, 1, 2, 3, 4, 5, 6, 7] rfl (by decide) 0 6 rfl rfl rfl hl.1 rfl (Nat.le_of_ble_eq_true rfl) dX7_join_2 ⟨Nat.le_of_ble_eq_true rfl, Nat.le_of_ble_eq_true rfl⟩) hP hD hS hA [0, 1, 2, 3, 4, 5, 6, 7] [] [0, 1, 2, 3, 4, 5, 6, 7] rfl rfl (by decide) (by decide) rfl (by decide) (fun H locs hP hD hS => ?_)
  clear hc
  refine lv_if_eq (tgt := 21) hx hb dX7_join_5 (by decide) (fun hq => ?_) (fun hq => ?_)
  · replace hf := jx_pos hq hf
    refine lv_sipush (v := -1001) hx hb dX7_join_21 (by decide) ?_
    have he := jx_eq hf
    subst he
    exact jx_reti hx hb hr hlocks rfl hK hP hD hS dX7_join_24
  · replace hf := jx_neg hq hf
    refine lv_aload_n hx hb dX7_join_8 rfl (lv_at hl 0 rfl) ?_
    refine lv_iload_n hx hb dX7_join_9 rfl (lv_at hl 2 rfl) ?_
    obtain ⟨r2, hc, hf⟩ := jx_bs hf
    refine jx_ki (wr := []) (ws2 := (wM a cI cL nl np nt nr nh ns nk ne nw na nf nc ng nx)) (jx_runV (As := [.int p1]) (rest := []) ⟨hx, hb, hml, hown, hts⟩ (c_X7_isPart l D a cI cL nl np nt nr nh ns nk ne nw na nf nc ng nx p1 r2 hc _) (cwV 1 hts gX7_join_X7_isPart rfl rfl rfl (by decide +kernel) ⟨Nat.le_of_ble_eq_true rfl, Nat.le_of_ble_eq_true rfl⟩) hK hN hP hD [0, 1, 2, 3, 4, 5, 6, 7] rfl (by decide) 0 6 rfl rfl rfl hl.1 rfl (Nat.le_of_ble_eq_true rfl) dX7_join_10 ⟨Nat.le_of_ble_eq_true rfl, Nat.le_of_ble_eq_true rfl⟩) hP hD hS hA [0, 1, 2, 3, 4, 5, 6, 7] [] [0, 1, 2, 3, 4, 5, 6, 7] rfl rfl (by decide) (by decide) rfl (by decide) (fun H locs hP hD hS => ?_)
    clear hc
    refine lv_if_eq (tgt := 21) hx hb dX7_join_13 (by decide) (fun hq => ?_) (fun hq => ?_)
    · replace hf := jx_pos hq hf
      refine lv_sipush (v := -1001) hx hb dX7_join_21 (by decide) ?_
      have he := jx_eq hf
      subst he
      exact jx_reti hx hb hr hlocks rfl hK hP hD hS dX7_join_24
    · replace hf := jx_neg hq hf
      refine lv_iload_n hx hb dX7_join_16 rfl (lv_at hl 1 rfl) ?_
      refine lv_iload_n hx hb dX7_join_17 rfl (lv_at hl 2 rfl) ?_
      refine lv_icmp_ne (tgt := 25) hx hb dX7_join_18 (by decide) (fun hq => ?_) (fun hq => ?_)
      · replace hf := jx_pos hq hf
        refine lv_iload_n hx hb dX7_join_25 rfl (lv_at hl 3 rfl) ?_
        refine lv_iconst (v := -1) hx hb dX7_join_26 (by decide) ?_
        refine lv_iconst (v := 3) hx hb dX7_join_27 (by decide) ?_
        obtain ⟨r3, hc, hf⟩ := jx_bs hf
        refine jx_ki (wr := [((a 0), .inr (6, [.int nl, .ref (a 1), .int nt, .ref (a 2), .int nh, .ref (a 3), .ref (a 4), .int ne, .int nw, .ref (a 5), .ref (a 6), .int nc, .ref (a 7), .long nx])), ((a 1), .inl (cI, 24, .inl np)), ((a 2), .inl (cI, 108, .inl nr)), ((a 3), .inl (cI, 8, .inl ns)), ((a 4), .inl (cI, 64, .inl nk)), ((a 5), .inl (cI, 8, .inl na)), ((a 6), .inl (cI, 8, .inl nf)), ((a 7), .inl (cI, 48, .inl ng))]) (ws2 := (wM a cI cL nl np nt nr nh ns nk ne nw na nf nc ng nx)) (jx_runS (As := [.int p2, .int (-1 : Int32), .int (3 : Int32)]) (rest := []) ⟨hx, hb, hml, hown, hts⟩ (c_X7_within l D a cI cL p2 (-1 : Int32) (3 : Int32) r3 hc _) (va_cwS 3 hts gX7_join_X7_within rfl rfl rfl (by decide +kernel) ⟨Nat.le_of_ble_eq_true rfl, Nat.le_of_ble_eq_true rfl⟩) hK hN hP hD [] rfl (by decide) rfl hl.1 rfl (Nat.le_of_ble_eq_true rfl) dX7_join_28 ⟨Nat.le_of_ble_eq_true rfl, Nat.le_of_ble_eq_true rfl⟩) hP hD hS hA [] [0, 1, 2, 3, 4, 5, 6, 7] [0, 1, 2, 3, 4, 5, 6, 7] rfl rfl (by decide) (by decide) rfl (by decide) (fun H locs hP hD hS => ?_)
        clear hc
        refine lv_if_ne (tgt := 38) hx hb dX7_join_31 (by decide) (fun hq => ?_) (fun hq => ?_)
        · replace hf := jx_pos hq hf
          refine lv_aload_n hx hb dX7_join_38 rfl (lv_at hl 0 rfl) ?_
          refine va_get (D := D) (ci := 6) (v := .ref (a 4)) (C := RX7) (T := TX7) (N := 14) hx hb hts iw_X7_join_X7 hown hK hP 0 rfl rfl 6 (by decide) (hts (.fieldLink RX7 19 "PassedDutiesModel" "kinds" "[I") (by decide +kernel)) (fun _ h9 => h9) rfl dX7_join_39 ?_
          refine lv_bipush (v := 8) hx hb dX7_join_42 (by decide) ?_
          refine lv_iload_n hx hb dX7_join_44 rfl (lv_at hl 1 rfl) ?_
          refine lv_imul hx hb dX7_join_45 ?_
          refine lv_iload_n hx hb dX7_join_46 rfl (lv_at hl 2 rfl) ?_
          refine lv_iadd hx hb dX7_join_47 ?_
          obtain ⟨hi, hf⟩ := jx_gs hf
          refine va_iald hx hb hK hP 4 0 rfl rfl (jx_ip hi) dX7_join_48 ?_
          clear hi
          refine lv_istore (lv' := [(4, .int (nk ((((8 : Int32) * p0) + p1)).toNatClampNeg)), (0, .ref (a 0)), (1, .int p0), (2, .int p1), (3, .int p2)]) hx hb dX7_join_49 hl (by decide) rfl (fun ls hl => ?_)
          refine lv_aload_n hx hb dX7_join_51 rfl (lv_at hl 1 rfl) ?_
          refine va_get (D := D) (ci := 6) (v := .ref (a 4)) (C := RX7) (T := TX7) (N := 14) hx hb hts iw_X7_join_X7 hown hK hP 0 rfl rfl 6 (by decide) (hts (.fieldLink RX7 19 "PassedDutiesModel" "kinds" "[I") (by decide +kernel)) (fun _ h9 => h9) rfl dX7_join_52 ?_
          refine lv_bipush (v := 8) hx hb dX7_join_55 (by decide) ?_
          refine lv_iload_n hx hb dX7_join_57 rfl (lv_at hl 2 rfl) ?_
          refine lv_imul hx hb dX7_join_58 ?_
          refine lv_iload_n hx hb dX7_join_59 rfl (lv_at hl 3 rfl) ?_
          refine lv_iadd hx hb dX7_join_60 ?_
          refine lv_iload_n hx hb dX7_join_61 rfl (lv_at hl 4 rfl) ?_
          obtain ⟨hi, hf⟩ := jx_gs hf
          refine va_iast hx hb hK hP hD hS 4 0 rfl rfl (jx_ip hi) dX7_join_62 (fun H locs hP hD hS => ?_)
          clear hi
          have hP : va_P D vwCl (wM a cI cL nl np nt nr nh ns (upd nk ((((8 : Int32) * p0) + p1)).toNatClampNeg p2) ne nw na nf nc ng nx) H := hP
          have hD : va_D A (wM a cI cL nl np nt nr nh ns (upd nk ((((8 : Int32) * p0) + p1)).toNatClampNeg p2) ne nw na nf nc ng nx) := hD
          refine lv_iload hx hb dX7_join_63 (lv_at hl 0 rfl) ?_
          have he := jx_eq hf
          subst he
          exact jx_reti hx hb hr hlocks rfl hK hP hD hS dX7_join_65
        · replace hf := jx_negn hq hf
          refine lv_sipush (v := -1002) hx hb dX7_join_34 (by decide) ?_
          have he := jx_eq hf
          subst he
          exact jx_reti hx hb hr hlocks rfl hK hP hD hS dX7_join_37
      · replace hf := jx_negn hq hf
        refine lv_sipush (v := -1001) hx hb dX7_join_21 (by decide) ?_
        have he := jx_eq hf
        subst he
        exact jx_reti hx hb hr hlocks rfl hK hP hD hS dX7_join_24
theorem iw_X7_kind_X7 : ∀ w ∈ wsX70, w ∈ wsX7_kind := by decide +kernel
set_option maxHeartbeats 4000000 in
set_option maxRecDepth 100000 in
theorem c_X7_kind (l : Launch) (D : va_G) (a : Nat → Nat) (cI cL : ClassId) (nl : Int32) (np : (Nat → Int32)) (nt : Int32) (nr : (Nat → Int32)) (nh : Int32) (ns : (Nat → Int32)) (nk : (Nat → Int32)) (ne : Int32) (nw : Int32) (na : (Nat → Int32)) (nf : (Nat → Int32)) (nc : Int32) (ng : (Nat → Int32)) (nx : Int64) (p0 : Int32) (p1 : Int32) (res : Int32) (hf : pf_X7_kind nh nk p0 p1 = some res) : jMi l yX7_kind wsX7_kind ({ frames := 2, cells := 0, slots := 0, locals := 43 }) D [(cI, .int), (cL, .long)] [.ref (a 0), .int p0, .int p1] (wM a cI cL nl np nt nr nh ns nk ne nw na nf nc ng nx) res (wM a cI cL nl np nt nr nh ns nk ne nw na nf nc ng nx) := by
  intro sz
  refine Met.ofW (cc := cX7_kind) (maxL := 3) (ret := (some .int)) (by decide) rfl ?_
  intro p e s m args below meth c s₁ B hml hv
  obtain ⟨rfl, hsz, hP, hK, hD0, hN⟩ := hv
  have hx := B.exec
  have hb := B.bytes
  have hr := B.returns
  have hts := atoms_spec (ws := wsX7_kind) B.pre
  have hown : s.vm.findClass RX7 = some m.cls := findClass_of_methodNamed B.named
  have hlocks := B.notSynchronized
  subst hsz
  have hD := hD0.self (sz := s.heap.size)
  generalize hAe : va_A (wM a cI cL nl np nt nr nh ns nk ne nw na nf nc ng nx) s.heap.size = A at hD ⊢
  have hA : ∀ q : Nat, s.heap.size ≤ q → A q := fun q h => by rw [← hAe]; exact Or.inr h
  have hS : va_S A s.heap s.heap [] := va_S.rf
  have hl := lv_entry ([.ref (a 0), .int p0, .int p1]) (n := 3) (Nat.le_of_ble_eq_true rfl)
  rw [lg_entry_eq]
  generalize (lg_sl ([.ref (a 0), .int p0, .int p1]) ++ List.replicate (3 - (lg_sl ([.ref (a 0), .int p0, .int p1])).length) Slot.unset).toArray = ls at hl ⊢
  have hl : lv_has ls 3 [(0, .ref (a 0)), (1, .int p0), (2, .int p1)] := hl
  have hf : pf_X7_kind nh nk p0 p1 = some res := hf
  refine lv_aload_n hx hb dX7_kind_0 rfl (lv_at hl 0 rfl) ?_
  refine lv_iload_n hx hb dX7_kind_1 rfl (lv_at hl 1 rfl) ?_
  obtain ⟨r1, hc, hf⟩ := jx_bs hf
  refine jx_ki (wr := []) (ws2 := (wM a cI cL nl np nt nr nh ns nk ne nw na nf nc ng nx)) (jx_runV (As := [.int p0]) (rest := []) ⟨hx, hb, hml, hown, hts⟩ (c_X7_isPart l D a cI cL nl np nt nr nh ns nk ne nw na nf nc ng nx p0 r1 hc _) (cwV 1 hts gX7_kind_X7_isPart rfl rfl rfl (by decide +kernel) ⟨Nat.le_of_ble_eq_true rfl, Nat.le_of_ble_eq_true rfl⟩) hK hN hP hD [0, 1, 2, 3, 4, 5, 6, 7] rfl (by decide) 0 6 rfl rfl rfl hl.1 rfl (Nat.le_of_ble_eq_true rfl) dX7_kind_2 ⟨Nat.le_of_ble_eq_true rfl, Nat.le_of_ble_eq_true rfl⟩) hP hD hS hA [0, 1, 2, 3, 4, 5, 6, 7] [] [0, 1, 2, 3, 4, 5, 6, 7] rfl rfl (by decide) (by decide) rfl (by decide) (fun H locs hP hD hS => ?_)
  clear hc
  refine lv_if_eq (tgt := 30) hx hb dX7_kind_5 (by decide) (fun hq => ?_) (fun hq => ?_)
  · replace hf := jx_pos hq hf
    refine lv_sipush (v := -1001) hx hb dX7_kind_30 (by decide) ?_
    have he := jx_eq hf
    subst he
    exact jx_reti hx hb hr hlocks rfl hK hP hD hS dX7_kind_33
  · replace hf := jx_neg hq hf
    refine lv_aload_n hx hb dX7_kind_8 rfl (lv_at hl 0 rfl) ?_
    refine lv_iload_n hx hb dX7_kind_9 rfl (lv_at hl 2 rfl) ?_
    obtain ⟨r2, hc, hf⟩ := jx_bs hf
    refine jx_ki (wr := []) (ws2 := (wM a cI cL nl np nt nr nh ns nk ne nw na nf nc ng nx)) (jx_runV (As := [.int p1]) (rest := []) ⟨hx, hb, hml, hown, hts⟩ (c_X7_isPart l D a cI cL nl np nt nr nh ns nk ne nw na nf nc ng nx p1 r2 hc _) (cwV 1 hts gX7_kind_X7_isPart rfl rfl rfl (by decide +kernel) ⟨Nat.le_of_ble_eq_true rfl, Nat.le_of_ble_eq_true rfl⟩) hK hN hP hD [0, 1, 2, 3, 4, 5, 6, 7] rfl (by decide) 0 6 rfl rfl rfl hl.1 rfl (Nat.le_of_ble_eq_true rfl) dX7_kind_10 ⟨Nat.le_of_ble_eq_true rfl, Nat.le_of_ble_eq_true rfl⟩) hP hD hS hA [0, 1, 2, 3, 4, 5, 6, 7] [] [0, 1, 2, 3, 4, 5, 6, 7] rfl rfl (by decide) (by decide) rfl (by decide) (fun H locs hP hD hS => ?_)
    clear hc
    refine lv_if_eq (tgt := 30) hx hb dX7_kind_13 (by decide) (fun hq => ?_) (fun hq => ?_)
    · replace hf := jx_pos hq hf
      refine lv_sipush (v := -1001) hx hb dX7_kind_30 (by decide) ?_
      have he := jx_eq hf
      subst he
      exact jx_reti hx hb hr hlocks rfl hK hP hD hS dX7_kind_33
    · replace hf := jx_neg hq hf
      refine lv_aload_n hx hb dX7_kind_16 rfl (lv_at hl 0 rfl) ?_
      refine va_get (D := D) (ci := 6) (v := .ref (a 4)) (C := RX7) (T := TX7) (N := 14) hx hb hts iw_X7_kind_X7 hown hK hP 0 rfl rfl 6 (by decide) (hts (.fieldLink RX7 19 "PassedDutiesModel" "kinds" "[I") (by decide +kernel)) (fun _ h9 => h9) rfl dX7_kind_17 ?_
      refine lv_bipush (v := 8) hx hb dX7_kind_20 (by decide) ?_
      refine lv_iload_n hx hb dX7_kind_22 rfl (lv_at hl 1 rfl) ?_
      refine lv_imul hx hb dX7_kind_23 ?_
      refine lv_iload_n hx hb dX7_kind_24 rfl (lv_at hl 2 rfl) ?_
      refine lv_iadd hx hb dX7_kind_25 ?_
      obtain ⟨hi, hf⟩ := jx_gs hf
      refine va_iald hx hb hK hP 4 0 rfl rfl (jx_ip hi) dX7_kind_26 ?_
      clear hi
      refine lv_goto (tgt := 33) hx hb dX7_kind_27 (by decide) ?_
      have he := jx_eq hf
      subst he
      exact jx_reti hx hb hr hlocks rfl hK hP hD hS dX7_kind_33
theorem iw_X7_layFar_X7 : ∀ w ∈ wsX70, w ∈ wsX7_layFar := by decide +kernel
set_option maxHeartbeats 4000000 in
set_option maxRecDepth 100000 in
theorem c_X7_layFar (l : Launch) (D : va_G) (a : Nat → Nat) (cI cL : ClassId) (nl : Int32) (np : (Nat → Int32)) (nt : Int32) (nr : (Nat → Int32)) (nh : Int32) (ns : (Nat → Int32)) (nk : (Nat → Int32)) (ne : Int32) (nw : Int32) (na : (Nat → Int32)) (nf : (Nat → Int32)) (nc : Int32) (ng : (Nat → Int32)) (nx : Int64) (p0 : Int32) (p1 : Int32) (res : (Nat → Int32)) (hf : pf_X7_layFar nr nh ns nk nf p0 p1 = some res) : jMv l yX7_layFar wsX7_layFar ({ frames := 2, cells := 0, slots := 0, locals := 45 }) D [(cI, .int), (cL, .long)] [.ref (a 0), .int p0, .int p1] (wM a cI cL nl np nt nr nh ns nk ne nw na nf nc ng nx) (wM a cI cL nl np nt nr nh ns nk ne nw na res nc ng nx) := by
  intro sz
  refine Met.ofW (cc := cX7_layFar) (maxL := 5) (ret := none) (by decide) rfl ?_
  intro p e s m args below meth c s₁ B hml hv
  obtain ⟨rfl, hsz, hP, hK, hD0, hN⟩ := hv
  have hx := B.exec
  have hb := B.bytes
  have hr := B.returns
  have hts := atoms_spec (ws := wsX7_layFar) B.pre
  have hown : s.vm.findClass RX7 = some m.cls := findClass_of_methodNamed B.named
  have hlocks := B.notSynchronized
  subst hsz
  have hD := hD0.self (sz := s.heap.size)
  generalize hAe : va_A (wM a cI cL nl np nt nr nh ns nk ne nw na nf nc ng nx) s.heap.size = A at hD ⊢
  have hA : ∀ q : Nat, s.heap.size ≤ q → A q := fun q h => by rw [← hAe]; exact Or.inr h
  have hS : va_S A s.heap s.heap [] := va_S.rf
  have hl := lv_entry ([.ref (a 0), .int p0, .int p1]) (n := 5) (Nat.le_of_ble_eq_true rfl)
  rw [lg_entry_eq]
  generalize (lg_sl ([.ref (a 0), .int p0, .int p1]) ++ List.replicate (5 - (lg_sl ([.ref (a 0), .int p0, .int p1])).length) Slot.unset).toArray = ls at hl ⊢
  have hl : lv_has ls 5 [(0, .ref (a 0)), (1, .int p0), (2, .int p1)] := hl
  have hf : pf_X7_layFar nr nh ns nk nf p0 p1 = some res := hf
  refine lv_iconst (v := 0) hx hb dX7_layFar_0 (by decide) ?_
  refine lv_istore_n (lv' := [(3, .int (0 : Int32)), (0, .ref (a 0)), (1, .int p0), (2, .int p1)]) hx hb dX7_layFar_1 rfl hl (by decide) rfl (fun ls hl => ?_)
  obtain ⟨k2, hf, hkk2⟩ := jx_bs hf
  have hXk2 : ∀ (H : Heap) (locs : List Loc) (ls : Array Slot), va_P D vwCl (wM a cI cL nl np nt nr nh ns nk ne nw na k2 nc ng nx) H → va_D A (wM a cI cL nl np nt nr nh ns nk ne nw na k2 nc ng nx) → va_S A s.heap H locs → lv_has ls 5 [(0, .ref (a 0)), (2, .int p1)] → jx_Wv p l e wsX7_layFar ({ frames := 2, cells := 0, slots := 0, locals := 45 }) s m [.ref (a 0), .int p0, .int p1] below meth c D [(cI, .int), (cL, .long)] (wM a cI cL nl np nt nr nh ns nk ne nw na res nc ng nx) A H locs (F0 m 47 ls []) := by
    clear hf hP hD hS hl
    intro H locs ls hP hD hS hl
    have hf := hkk2
    refine lv_iconst (v := 0) hx hb dX7_layFar_47 (by decide) ?_
    refine lv_istore_n (lv' := [(3, .int (0 : Int32)), (0, .ref (a 0)), (2, .int p1)]) hx hb dX7_layFar_48 rfl hl (by decide) rfl (fun ls hl => ?_)
    obtain ⟨k8, hf, hkk8⟩ := jx_bs hf
    have hXk8 : ∀ (H : Heap) (locs : List Loc) (ls : Array Slot), va_P D vwCl (wM a cI cL nl np nt nr nh ns nk ne nw na k8 nc ng nx) H → va_D A (wM a cI cL nl np nt nr nh ns nk ne nw na k8 nc ng nx) → va_S A s.heap H locs → lv_has ls 5 [] → jx_Wv p l e wsX7_layFar ({ frames := 2, cells := 0, slots := 0, locals := 45 }) s m [.ref (a 0), .int p0, .int p1] below meth c D [(cI, .int), (cL, .long)] (wM a cI cL nl np nt nr nh ns nk ne nw na res nc ng nx) A H locs (F0 m 142 ls []) := by
      clear hf hP hD hS hl
      intro H locs ls hP hD hS hl
      have hf := hkk8
      have he := jx_eq hf
      subst he
      exact jx_retv hx hb hr hlocks hK hP hD hS dX7_layFar_142
    have hLk8 : ∀ (n : Nat) (s7 : (Int32 × (Nat → Int32))) (H : Heap) (locs : List Loc) (ls : Array Slot), jx_iter (pf_X7_layFar_s2 nh nk p1) n s7 = some k8 → va_P D vwCl (wM a cI cL nl np nt nr nh ns nk ne nw na s7.2 nc ng nx) H → va_D A (wM a cI cL nl np nt nr nh ns nk ne nw na s7.2 nc ng nx) → va_S A s.heap H locs → lv_has ls 5 [(0, .ref (a 0)), (2, .int p1), (3, .int s7.1)] → jx_Wv p l e wsX7_layFar ({ frames := 2, cells := 0, slots := 0, locals := 45 }) s m [.ref (a 0), .int p0, .int p1] below meth c D [(cI, .int), (cL, .long)] (wM a cI cL nl np nt nr nh ns nk ne nw na res nc ng nx) A H locs (F0 m 49 ls []) := by
      clear hf hP hD hS hl
      intro n
      induction n with
      | zero => intro s7 _ _ _ hf; cases hf
      | succ n ihk8 =>
        intro s7 H locs ls hf hP hD hS hl
        obtain ⟨q9, hf, hgk8⟩ := jx_bs hf
        refine lv_iload_n hx hb dX7_layFar_49 rfl (lv_at hl 2 rfl) ?_
        refine lv_bipush (v := 8) hx hb dX7_layFar_50 (by decide) ?_
        refine lv_icmp_ge (tgt := 142) hx hb dX7_layFar_52 (by decide) (fun hq => ?_) (fun hq => ?_)
        · replace hf := jx_pos hq hf
          have he := jx_eq hf
          subst he
          have he : _ = k8 := jx_eq hgk8
          subst he
          exact hXk8 _ _ _ hP hD hS (lv_sub hl [] rfl)
        · replace hf := jx_neg hq hf
          refine lv_iconst (v := 0) hx hb dX7_layFar_55 (by decide) ?_
          refine lv_istore (lv' := [(4, .int (0 : Int32)), (0, .ref (a 0)), (2, .int p1), (3, .int s7.1)]) hx hb dX7_layFar_56 hl (by decide) rfl (fun ls hl => ?_)
          obtain ⟨k11, hf, hkk11⟩ := jx_bs hf
          have hXk11 : ∀ (H : Heap) (locs : List Loc) (ls : Array Slot), va_P D vwCl (wM a cI cL nl np nt nr nh ns nk ne nw na k11 nc ng nx) H → va_D A (wM a cI cL nl np nt nr nh ns nk ne nw na k11 nc ng nx) → va_S A s.heap H locs → lv_has ls 5 [(0, .ref (a 0)), (2, .int p1), (3, .int s7.1)] → jx_Wv p l e wsX7_layFar ({ frames := 2, cells := 0, slots := 0, locals := 45 }) s m [.ref (a 0), .int p0, .int p1] below meth c D [(cI, .int), (cL, .long)] (wM a cI cL nl np nt nr nh ns nk ne nw na res nc ng nx) A H locs (F0 m 136 ls []) := by
            clear hf hP hD hS hl
            intro H locs ls hP hD hS hl
            have hf := hkk11
            refine lv_iinc (v := (s7.1 + (1 : Int32))) (lv' := [(3, .int (s7.1 + (1 : Int32))), (0, .ref (a 0)), (2, .int p1)]) hx hb dX7_layFar_136 hl (k := 2) rfl rfl (by decide) rfl (fun ls hl => ?_)
            refine lv_goto (tgt := 49) hx hb dX7_layFar_139 (by decide) ?_
            have he := jx_eq hf
            subst he
            exact ihk8 ((s7.1 + (1 : Int32)), k11) _ _ _ hgk8 hP hD hS (lv_sub hl [1, 2, 0] rfl)
          have hLk11 : ∀ (n : Nat) (s10 : (Int32 × (Nat → Int32))) (H : Heap) (locs : List Loc) (ls : Array Slot), jx_iter (pf_X7_layFar_s3 nh nk p1) n s10 = some k11 → va_P D vwCl (wM a cI cL nl np nt nr nh ns nk ne nw na s10.2 nc ng nx) H → va_D A (wM a cI cL nl np nt nr nh ns nk ne nw na s10.2 nc ng nx) → va_S A s.heap H locs → lv_has ls 5 [(0, .ref (a 0)), (2, .int p1), (3, .int s7.1), (4, .int s10.1)] → jx_Wv p l e wsX7_layFar ({ frames := 2, cells := 0, slots := 0, locals := 45 }) s m [.ref (a 0), .int p0, .int p1] below meth c D [(cI, .int), (cL, .long)] (wM a cI cL nl np nt nr nh ns nk ne nw na res nc ng nx) A H locs (F0 m 58 ls []) := by
            clear hf hP hD hS hl
            intro n
            induction n with
            | zero => intro s10 _ _ _ hf; cases hf
            | succ n ihk11 =>
              intro s10 H locs ls hf hP hD hS hl
              obtain ⟨q12, hf, hgk11⟩ := jx_bs hf
              refine lv_iload hx hb dX7_layFar_58 (lv_at hl 3 rfl) ?_
              refine lv_bipush (v := 64) hx hb dX7_layFar_60 (by decide) ?_
              refine lv_icmp_ge (tgt := 136) hx hb dX7_layFar_62 (by decide) (fun hq => ?_) (fun hq => ?_)
              · replace hf := jx_pos hq hf
                have he := jx_eq hf
                subst he
                have he : _ = k11 := jx_eq hgk11
                subst he
                exact hXk11 _ _ _ hP hD hS (lv_sub hl [0, 1, 2] rfl)
              · replace hf := jx_neg hq hf
                refine lv_aload_n hx hb dX7_layFar_65 rfl (lv_at hl 0 rfl) ?_
                refine lv_iload hx hb dX7_layFar_66 (lv_at hl 3 rfl) ?_
                refine lv_bipush (v := 8) hx hb dX7_layFar_68 (by decide) ?_
                refine lv_idiv hx hb dX7_layFar_70 (by decide) ?_
                refine lv_iload hx hb dX7_layFar_71 (lv_at hl 3 rfl) ?_
                refine lv_bipush (v := 8) hx hb dX7_layFar_73 (by decide) ?_
                refine lv_irem hx hb dX7_layFar_75 (by decide) ?_
                refine lv_iload_n hx hb dX7_layFar_76 rfl (lv_at hl 1 rfl) ?_
                obtain ⟨r13, hc, hf⟩ := jx_bs hf
                refine jx_ki (wr := []) (ws2 := (wM a cI cL nl np nt nr nh ns nk ne nw na s10.2 nc ng nx)) (jx_runV (As := [.int (s10.1 / (8 : Int32)), .int (s10.1 - s10.1 / (8 : Int32) * (8 : Int32)), .int p1]) (rest := []) ⟨hx, hb, hml, hown, hts⟩ (c_X7_isLet l D a cI cL nl np nt nr nh ns nk ne nw na s10.2 nc ng nx (s10.1 / (8 : Int32)) (s10.1 - s10.1 / (8 : Int32) * (8 : Int32)) p1 r13 hc _) (cwV 3 hts gX7_layFar_X7_isLet rfl rfl rfl (by decide +kernel) ⟨Nat.le_of_ble_eq_true rfl, Nat.le_of_ble_eq_true rfl⟩) hK hN hP hD [0, 1, 2, 3, 4, 5, 6, 7] rfl (by decide) 0 6 rfl rfl rfl hl.1 rfl (Nat.le_of_ble_eq_true rfl) dX7_layFar_77 ⟨Nat.le_of_ble_eq_true rfl, Nat.le_of_ble_eq_true rfl⟩) hP hD hS hA [0, 1, 2, 3, 4, 5, 6, 7] [] [0, 1, 2, 3, 4, 5, 6, 7] rfl rfl (by decide) (by decide) rfl (by decide) (fun H locs hP hD hS => ?_)
                clear hc
                obtain ⟨j14, hf, hkj14⟩ := jx_bs hf
                have hJj14 : ∀ (H : Heap) (locs : List Loc) (ls : Array Slot), va_P D vwCl (wM a cI cL nl np nt nr nh ns nk ne nw na j14 nc ng nx) H → va_D A (wM a cI cL nl np nt nr nh ns nk ne nw na j14 nc ng nx) → va_S A s.heap H locs → lv_has ls 5 [(0, .ref (a 0)), (2, .int p1), (3, .int s7.1), (4, .int s10.1)] → jx_Wv p l e wsX7_layFar ({ frames := 2, cells := 0, slots := 0, locals := 45 }) s m [.ref (a 0), .int p0, .int p1] below meth c D [(cI, .int), (cL, .long)] (wM a cI cL nl np nt nr nh ns nk ne nw na res nc ng nx) A H locs (F0 m 130 ls []) := by
                  clear hf hP hD hS hl
                  intro H locs ls hP hD hS hl
                  have hf := hkj14
                  refine lv_iinc (v := (s10.1 + (1 : Int32))) (lv' := [(4, .int (s10.1 + (1 : Int32))), (0, .ref (a 0)), (2, .int p1), (3, .int s7.1)]) hx hb dX7_layFar_130 hl (k := 3) rfl rfl (by decide) rfl (fun ls hl => ?_)
                  refine lv_goto (tgt := 58) hx hb dX7_layFar_133 (by decide) ?_
                  have he := jx_eq hf
                  subst he
                  exact ihk11 ((s10.1 + (1 : Int32)), j14) _ _ _ hgk11 hP hD hS (lv_sub hl [1, 2, 3, 0] rfl)
                refine lv_if_eq (tgt := 130) hx hb dX7_layFar_80 (by decide) (fun hq => ?_) (fun hq => ?_)
                · replace hf := jx_pos hq hf
                  have he := jx_eq hf
                  subst he
                  exact hJj14 _ _ _ hP hD hS (lv_sub hl [0, 1, 2, 3] rfl)
                · replace hf := jx_neg hq hf
                  refine lv_aload_n hx hb dX7_layFar_83 rfl (lv_at hl 0 rfl) ?_
                  refine va_get (D := D) (ci := 6) (v := .ref (a 6)) (C := RX7) (T := TX7) (N := 14) hx hb hts iw_X7_layFar_X7 hown hK hP 0 rfl rfl 10 (by decide) (hts (.fieldLink RX7 25 "PassedDutiesModel" "far" "[I") (by decide +kernel)) (fun _ h9 => h9) rfl dX7_layFar_84 ?_
                  refine lv_iload hx hb dX7_layFar_87 (lv_at hl 3 rfl) ?_
                  refine lv_bipush (v := 8) hx hb dX7_layFar_89 (by decide) ?_
                  refine lv_irem hx hb dX7_layFar_91 (by decide) ?_
                  obtain ⟨hi, hf⟩ := jx_gs hf
                  refine va_iald hx hb hK hP 6 0 rfl rfl (jx_ip hi) dX7_layFar_92 ?_
                  clear hi
                  refine lv_iconst (v := 1) hx hb dX7_layFar_93 (by decide) ?_
                  refine lv_iadd hx hb dX7_layFar_94 ?_
                  refine lv_aload_n hx hb dX7_layFar_95 rfl (lv_at hl 0 rfl) ?_
                  refine va_get (D := D) (ci := 6) (v := .ref (a 6)) (C := RX7) (T := TX7) (N := 14) hx hb hts iw_X7_layFar_X7 hown hK hP 0 rfl rfl 10 (by decide) (hts (.fieldLink RX7 25 "PassedDutiesModel" "far" "[I") (by decide +kernel)) (fun _ h9 => h9) rfl dX7_layFar_96 ?_
                  refine lv_iload hx hb dX7_layFar_99 (lv_at hl 3 rfl) ?_
                  refine lv_bipush (v := 8) hx hb dX7_layFar_101 (by decide) ?_
                  refine lv_idiv hx hb dX7_layFar_103 (by decide) ?_
                  obtain ⟨hi, hf⟩ := jx_gs hf
                  refine va_iald hx hb hK hP 6 0 rfl rfl (jx_ip hi) dX7_layFar_104 ?_
                  clear hi
                  refine lv_icmp_ge (tgt := 130) hx hb dX7_layFar_105 (by decide) (fun hq => ?_) (fun hq => ?_)
                  · replace hf := jx_pos hq hf
                    have he := jx_eq hf
                    subst he
                    exact hJj14 _ _ _ hP hD hS (lv_sub hl [0, 1, 2, 3] rfl)
                  · replace hf := jx_neg hq hf
                    refine lv_aload_n hx hb dX7_layFar_108 rfl (lv_at hl 0 rfl) ?_
                    refine va_get (D := D) (ci := 6) (v := .ref (a 6)) (C := RX7) (T := TX7) (N := 14) hx hb hts iw_X7_layFar_X7 hown hK hP 0 rfl rfl 10 (by decide) (hts (.fieldLink RX7 25 "PassedDutiesModel" "far" "[I") (by decide +kernel)) (fun _ h9 => h9) rfl dX7_layFar_109 ?_
                    refine lv_iload hx hb dX7_layFar_112 (lv_at hl 3 rfl) ?_
                    refine lv_bipush (v := 8) hx hb dX7_layFar_114 (by decide) ?_
                    refine lv_idiv hx hb dX7_layFar_116 (by decide) ?_
                    refine lv_aload_n hx hb dX7_layFar_117 rfl (lv_at hl 0 rfl) ?_
                    refine va_get (D := D) (ci := 6) (v := .ref (a 6)) (C := RX7) (T := TX7) (N := 14) hx hb hts iw_X7_layFar_X7 hown hK hP 0 rfl rfl 10 (by decide) (hts (.fieldLink RX7 25 "PassedDutiesModel" "far" "[I") (by decide +kernel)) (fun _ h9 => h9) rfl dX7_layFar_118 ?_
                    refine lv_iload hx hb dX7_layFar_121 (lv_at hl 3 rfl) ?_
                    refine lv_bipush (v := 8) hx hb dX7_layFar_123 (by decide) ?_
                    refine lv_irem hx hb dX7_layFar_125 (by decide) ?_
                    obtain ⟨hi, hf⟩ := jx_gs hf
                    refine va_iald hx hb hK hP 6 0 rfl rfl (jx_ip hi) dX7_layFar_126 ?_
                    clear hi
                    refine lv_iconst (v := 1) hx hb dX7_layFar_127 (by decide) ?_
                    refine lv_iadd hx hb dX7_layFar_128 ?_
                    obtain ⟨hi, hf⟩ := jx_gs hf
                    refine va_iast hx hb hK hP hD hS 6 0 rfl rfl (jx_ip hi) dX7_layFar_129 (fun H locs hP hD hS => ?_)
                    clear hi
                    have hP : va_P D vwCl (wM a cI cL nl np nt nr nh ns nk ne nw na (upd s10.2 ((s10.1 / (8 : Int32))).toNatClampNeg ((s10.2 ((s10.1 - s10.1 / (8 : Int32) * (8 : Int32))).toNatClampNeg) + (1 : Int32))) nc ng nx) H := hP
                    have hD : va_D A (wM a cI cL nl np nt nr nh ns nk ne nw na (upd s10.2 ((s10.1 / (8 : Int32))).toNatClampNeg ((s10.2 ((s10.1 - s10.1 / (8 : Int32) * (8 : Int32))).toNatClampNeg) + (1 : Int32))) nc ng nx) := hD
                    have he := jx_eq hf
                    subst he
                    exact hJj14 _ _ _ hP hD hS (lv_sub hl [0, 1, 2, 3] rfl)
          exact hLk11 jx_F ((0 : Int32), s7.2) _ _ _ hf hP hD hS (lv_sub hl [1, 2, 3, 0] rfl)
    exact hLk8 jx_F ((0 : Int32), k2) _ _ _ hf hP hD hS (lv_sub hl [1, 2, 0] rfl)
  have hLk2 : ∀ (n : Nat) (s1 : (Int32 × (Nat → Int32))) (H : Heap) (locs : List Loc) (ls : Array Slot), jx_iter (pf_X7_layFar_s1 nr nh ns p0 p1) n s1 = some k2 → va_P D vwCl (wM a cI cL nl np nt nr nh ns nk ne nw na s1.2 nc ng nx) H → va_D A (wM a cI cL nl np nt nr nh ns nk ne nw na s1.2 nc ng nx) → va_S A s.heap H locs → lv_has ls 5 [(0, .ref (a 0)), (1, .int p0), (2, .int p1), (3, .int s1.1)] → jx_Wv p l e wsX7_layFar ({ frames := 2, cells := 0, slots := 0, locals := 45 }) s m [.ref (a 0), .int p0, .int p1] below meth c D [(cI, .int), (cL, .long)] (wM a cI cL nl np nt nr nh ns nk ne nw na res nc ng nx) A H locs (F0 m 2 ls []) := by
    clear hf hP hD hS hl
    intro n
    induction n with
    | zero => intro s1 _ _ _ hf; cases hf
    | succ n ihk2 =>
      intro s1 H locs ls hf hP hD hS hl
      obtain ⟨q3, hf, hgk2⟩ := jx_bs hf
      refine lv_iload_n hx hb dX7_layFar_2 rfl (lv_at hl 3 rfl) ?_
      refine lv_bipush (v := 8) hx hb dX7_layFar_3 (by decide) ?_
      refine lv_icmp_ge (tgt := 47) hx hb dX7_layFar_5 (by decide) (fun hq => ?_) (fun hq => ?_)
      · replace hf := jx_pos hq hf
        have he := jx_eq hf
        subst he
        have he : _ = k2 := jx_eq hgk2
        subst he
        exact hXk2 _ _ _ hP hD hS (lv_sub hl [0, 2] rfl)
      · replace hf := jx_neg hq hf
        refine lv_aload_n hx hb dX7_layFar_8 rfl (lv_at hl 0 rfl) ?_
        refine va_get (D := D) (ci := 6) (v := .ref (a 6)) (C := RX7) (T := TX7) (N := 14) hx hb hts iw_X7_layFar_X7 hown hK hP 0 rfl rfl 10 (by decide) (hts (.fieldLink RX7 25 "PassedDutiesModel" "far" "[I") (by decide +kernel)) (fun _ h9 => h9) rfl dX7_layFar_9 ?_
        refine lv_iload_n hx hb dX7_layFar_12 rfl (lv_at hl 3 rfl) ?_
        refine lv_aload_n hx hb dX7_layFar_13 rfl (lv_at hl 0 rfl) ?_
        refine va_get (D := D) (ci := 6) (v := .int nh) (C := RX7) (T := TX7) (N := 14) hx hb hts iw_X7_layFar_X7 hown hK hP 0 rfl rfl 4 (by decide) (hts (.fieldLink RX7 65 "PassedDutiesModel" "there" "I") (by decide +kernel)) (fun _ h9 => h9) rfl dX7_layFar_14 ?_
        refine lv_iload_n hx hb dX7_layFar_17 rfl (lv_at hl 3 rfl) ?_
        obtain ⟨r4, hc, hf⟩ := jx_bs hf
        refine jx_ki (wr := [((a 0), .inr (6, [.int nl, .ref (a 1), .int nt, .ref (a 2), .int nh, .ref (a 3), .ref (a 4), .int ne, .int nw, .ref (a 5), .ref (a 6), .int nc, .ref (a 7), .long nx])), ((a 1), .inl (cI, 24, .inl np)), ((a 2), .inl (cI, 108, .inl nr)), ((a 3), .inl (cI, 8, .inl ns)), ((a 4), .inl (cI, 64, .inl nk)), ((a 5), .inl (cI, 8, .inl na)), ((a 6), .inl (cI, 8, .inl s1.2)), ((a 7), .inl (cI, 48, .inl ng))]) (ws2 := (wM a cI cL nl np nt nr nh ns nk ne nw na s1.2 nc ng nx)) (jx_runS (As := [.int nh, .int s1.1]) (rest := [.int s1.1, .ref (a 6)]) ⟨hx, hb, hml, hown, hts⟩ (c_X7_has l D a cI cL nh s1.1 r4 hc _) (va_cwS 2 hts gX7_layFar_X7_has rfl rfl rfl (by decide +kernel) ⟨Nat.le_of_ble_eq_true rfl, Nat.le_of_ble_eq_true rfl⟩) hK hN hP hD [] rfl (by decide) rfl hl.1 rfl (Nat.le_of_ble_eq_true rfl) dX7_layFar_18 ⟨Nat.le_of_ble_eq_true rfl, Nat.le_of_ble_eq_true rfl⟩) hP hD hS hA [] [0, 1, 2, 3, 4, 5, 6, 7] [0, 1, 2, 3, 4, 5, 6, 7] rfl rfl (by decide) (by decide) rfl (by decide) (fun H locs hP hD hS => ?_)
        clear hc
        obtain ⟨j5, hf, hkj5⟩ := jx_bs hf
        have hJj5 : ∀ (H : Heap) (locs : List Loc) (ls : Array Slot), va_P D vwCl (wM a cI cL nl np nt nr nh ns nk ne nw na s1.2 nc ng nx) H → va_D A (wM a cI cL nl np nt nr nh ns nk ne nw na s1.2 nc ng nx) → va_S A s.heap H locs → lv_has ls 5 [(0, .ref (a 0)), (1, .int p0), (2, .int p1), (3, .int s1.1)] → jx_Wv p l e wsX7_layFar ({ frames := 2, cells := 0, slots := 0, locals := 45 }) s m [.ref (a 0), .int p0, .int p1] below meth c D [(cI, .int), (cL, .long)] (wM a cI cL nl np nt nr nh ns nk ne nw na res nc ng nx) A H locs (F0 m 40 ls [.int j5, .int s1.1, .ref (a 6)]) := by
          clear hf hP hD hS hl
          intro H locs ls hP hD hS hl
          have hf := hkj5
          obtain ⟨hi, hf⟩ := jx_gs hf
          refine va_iast hx hb hK hP hD hS 6 0 rfl rfl (jx_ip hi) dX7_layFar_40 (fun H locs hP hD hS => ?_)
          clear hi
          have hP : va_P D vwCl (wM a cI cL nl np nt nr nh ns nk ne nw na (upd s1.2 (s1.1).toNatClampNeg j5) nc ng nx) H := hP
          have hD : va_D A (wM a cI cL nl np nt nr nh ns nk ne nw na (upd s1.2 (s1.1).toNatClampNeg j5) nc ng nx) := hD
          refine lv_iinc (v := (s1.1 + (1 : Int32))) (lv' := [(3, .int (s1.1 + (1 : Int32))), (0, .ref (a 0)), (1, .int p0), (2, .int p1)]) hx hb dX7_layFar_41 hl (k := 3) rfl rfl (by decide) rfl (fun ls hl => ?_)
          refine lv_goto (tgt := 2) hx hb dX7_layFar_44 (by decide) ?_
          have he := jx_eq hf
          subst he
          exact ihk2 ((s1.1 + (1 : Int32)), (upd s1.2 (s1.1).toNatClampNeg j5)) _ _ _ hgk2 hP hD hS (lv_sub hl [1, 2, 3, 0] rfl)
        refine lv_if_eq (tgt := 38) hx hb dX7_layFar_21 (by decide) (fun hq => ?_) (fun hq => ?_)
        · replace hf := jx_pos hq hf
          refine lv_bipush (v := 8) hx hb dX7_layFar_38 (by decide) ?_
          have he := jx_eq hf
          subst he
          exact hJj5 _ _ _ hP hD hS (lv_sub hl [0, 1, 2, 3] rfl)
        · replace hf := jx_neg hq hf
          refine lv_aload_n hx hb dX7_layFar_24 rfl (lv_at hl 0 rfl) ?_
          refine lv_iload_n hx hb dX7_layFar_25 rfl (lv_at hl 3 rfl) ?_
          refine lv_iload_n hx hb dX7_layFar_26 rfl (lv_at hl 1 rfl) ?_
          obtain ⟨r6, hc, hf⟩ := jx_bs hf
          refine jx_ki (wr := []) (ws2 := (wM a cI cL nl np nt nr nh ns nk ne nw na s1.2 nc ng nx)) (jx_runV (As := [.int s1.1, .int p0]) (rest := [.int s1.1, .ref (a 6)]) ⟨hx, hb, hml, hown, hts⟩ (c_X7_ownReach l D a cI cL nl np nt nr nh ns nk ne nw na s1.2 nc ng nx s1.1 p0 r6 hc _) (cwV 2 hts gX7_layFar_X7_ownReach rfl rfl rfl (by decide +kernel) ⟨Nat.le_of_ble_eq_true rfl, Nat.le_of_ble_eq_true rfl⟩) hK hN hP hD [0, 1, 2, 3, 4, 5, 6, 7] rfl (by decide) 0 6 rfl rfl rfl hl.1 rfl (Nat.le_of_ble_eq_true rfl) dX7_layFar_27 ⟨Nat.le_of_ble_eq_true rfl, Nat.le_of_ble_eq_true rfl⟩) hP hD hS hA [0, 1, 2, 3, 4, 5, 6, 7] [] [0, 1, 2, 3, 4, 5, 6, 7] rfl rfl (by decide) (by decide) rfl (by decide) (fun H locs hP hD hS => ?_)
          clear hc
          refine lv_iload_n hx hb dX7_layFar_30 rfl (lv_at hl 2 rfl) ?_
          refine lv_icmp_ne (tgt := 38) hx hb dX7_layFar_31 (by decide) (fun hq => ?_) (fun hq => ?_)
          · replace hf := jx_pos hq hf
            refine lv_bipush (v := 8) hx hb dX7_layFar_38 (by decide) ?_
            have he := jx_eq hf
            subst he
            exact hJj5 _ _ _ hP hD hS (lv_sub hl [0, 1, 2, 3] rfl)
          · replace hf := jx_negn hq hf
            refine lv_iconst (v := 0) hx hb dX7_layFar_34 (by decide) ?_
            refine lv_goto (tgt := 40) hx hb dX7_layFar_35 (by decide) ?_
            have he := jx_eq hf
            subst he
            exact hJj5 _ _ _ hP hD hS (lv_sub hl [0, 1, 2, 3] rfl)
  exact hLk2 jx_F ((0 : Int32), nf) _ _ _ hf hP hD hS (lv_sub hl [1, 2, 3, 0] rfl)
theorem iw_X7_layWay_X7 : ∀ w ∈ wsX70, w ∈ wsX7_layWay := by decide +kernel
set_option maxHeartbeats 4000000 in
set_option maxRecDepth 100000 in
theorem c_X7_layWay (l : Launch) (D : va_G) (a : Nat → Nat) (cI cL : ClassId) (nl : Int32) (np : (Nat → Int32)) (nt : Int32) (nr : (Nat → Int32)) (nh : Int32) (ns : (Nat → Int32)) (nk : (Nat → Int32)) (ne : Int32) (nw : Int32) (na : (Nat → Int32)) (nf : (Nat → Int32)) (nc : Int32) (ng : (Nat → Int32)) (nx : Int64) (p0 : Int32) (p1 : Int32) (res : (Int32 × (Nat → Int32) × (Nat → Int32))) (hf : pf_X7_layWay nr nh ns nk nw na nf p0 p1 = some res) : jMv l yX7_layWay wsX7_layWay ({ frames := 3, cells := 0, slots := 0, locals := 72 }) D [(cI, .int), (cL, .long)] [.ref (a 0), .int p0, .int p1] (wM a cI cL nl np nt nr nh ns nk ne nw na nf nc ng nx) (wM a cI cL nl np nt nr nh ns nk ne res.1 res.2.1 res.2.2 nc ng nx) := by
  intro sz
  refine Met.ofW (cc := cX7_layWay) (maxL := 6) (ret := none) (by decide) rfl ?_
  intro p e s m args below meth c s₁ B hml hv
  obtain ⟨rfl, hsz, hP, hK, hD0, hN⟩ := hv
  have hx := B.exec
  have hb := B.bytes
  have hr := B.returns
  have hts := atoms_spec (ws := wsX7_layWay) B.pre
  have hown : s.vm.findClass RX7 = some m.cls := findClass_of_methodNamed B.named
  have hlocks := B.notSynchronized
  subst hsz
  have hD := hD0.self (sz := s.heap.size)
  generalize hAe : va_A (wM a cI cL nl np nt nr nh ns nk ne nw na nf nc ng nx) s.heap.size = A at hD ⊢
  have hA : ∀ q : Nat, s.heap.size ≤ q → A q := fun q h => by rw [← hAe]; exact Or.inr h
  have hS : va_S A s.heap s.heap [] := va_S.rf
  have hl := lv_entry ([.ref (a 0), .int p0, .int p1]) (n := 6) (Nat.le_of_ble_eq_true rfl)
  rw [lg_entry_eq]
  generalize (lg_sl ([.ref (a 0), .int p0, .int p1]) ++ List.replicate (6 - (lg_sl ([.ref (a 0), .int p0, .int p1])).length) Slot.unset).toArray = ls at hl ⊢
  have hl : lv_has ls 6 [(0, .ref (a 0)), (1, .int p0), (2, .int p1)] := hl
  have hf : pf_X7_layWay nr nh ns nk nw na nf p0 p1 = some res := hf
  refine lv_aload_n hx hb dX7_layWay_0 rfl (lv_at hl 0 rfl) ?_
  refine lv_iload_n hx hb dX7_layWay_1 rfl (lv_at hl 1 rfl) ?_
  refine lv_iload_n hx hb dX7_layWay_2 rfl (lv_at hl 2 rfl) ?_
  obtain ⟨r1, hc, hf⟩ := jx_bs hf
  refine jx_ki (wr := []) (ws2 := (wM a cI cL nl np nt nr nh ns nk ne nw na nf nc ng nx)) (jx_runV (As := [.int p0, .int p1]) (rest := []) ⟨hx, hb, hml, hown, hts⟩ (c_X7_heldNow l D a cI cL nl np nt nr nh ns nk ne nw na nf nc ng nx p0 p1 r1 hc _) (cwV 2 hts gX7_layWay_X7_heldNow rfl rfl rfl (by decide +kernel) ⟨Nat.le_of_ble_eq_true rfl, Nat.le_of_ble_eq_true rfl⟩) hK hN hP hD [0, 1, 2, 3, 4, 5, 6, 7] rfl (by decide) 0 6 rfl rfl rfl hl.1 rfl (Nat.le_of_ble_eq_true rfl) dX7_layWay_3 ⟨Nat.le_of_ble_eq_true rfl, Nat.le_of_ble_eq_true rfl⟩) hP hD hS hA [0, 1, 2, 3, 4, 5, 6, 7] [] [0, 1, 2, 3, 4, 5, 6, 7] rfl rfl (by decide) (by decide) rfl (by decide) (fun H locs hP hD hS => ?_)
  clear hc
  refine lv_istore_n (lv' := [(3, .int r1), (0, .ref (a 0)), (1, .int p0), (2, .int p1)]) hx hb dX7_layWay_6 rfl hl (by decide) rfl (fun ls hl => ?_)
  refine lv_aload_n hx hb dX7_layWay_7 rfl (lv_at hl 1 rfl) ?_
  refine lv_iconst (v := 0) hx hb dX7_layWay_8 (by decide) ?_
  refine va_put (D := D) (ci := 6) (v := .int (0 : Int32)) (ty := .int) (C := RX7) (T := TX7) (N := 14) hx hb hts iw_X7_layWay_X7 tyX7 tyX7_ok nmX7 hown hK hP hD hS 0 rfl rfl 8 (by decide) (hts (.fieldLink RX7 100 "PassedDutiesModel" "wayMany" "I") (by decide +kernel)) (fun _ h9 => h9) rfl (by decide +kernel) rfl rfl (Nat.le_of_ble_eq_true rfl) dX7_layWay_9 (fun H locs hP hD hS => ?_)
  have hP : va_P D vwCl (wM a cI cL nl np nt nr nh ns nk ne (0 : Int32) na nf nc ng nx) H := hP
  have hD : va_D A (wM a cI cL nl np nt nr nh ns nk ne (0 : Int32) na nf nc ng nx) := hD
  refine lv_iload_n hx hb dX7_layWay_12 rfl (lv_at hl 0 rfl) ?_
  refine lv_if_ne (tgt := 17) hx hb dX7_layWay_13 (by decide) (fun hq => ?_) (fun hq => ?_)
  · replace hf := jx_pos hq hf
    refine lv_aload_n hx hb dX7_layWay_17 rfl (lv_at hl 1 rfl) ?_
    refine lv_iload_n hx hb dX7_layWay_18 rfl (lv_at hl 3 rfl) ?_
    refine lv_iload_n hx hb dX7_layWay_19 rfl (lv_at hl 0 rfl) ?_
    obtain ⟨r2, hc, hf⟩ := jx_bs hf
    refine jx_kv (wr := []) (ws2 := (wM a cI cL nl np nt nr nh ns nk ne (0 : Int32) na r2 nc ng nx)) (jx_runV (As := [.int p1, .int r1]) (rest := []) ⟨hx, hb, hml, hown, hts⟩ (c_X7_layFar l D a cI cL nl np nt nr nh ns nk ne (0 : Int32) na nf nc ng nx p1 r1 r2 hc _) (cwV 2 hts gX7_layWay_X7_layFar rfl rfl rfl (by decide +kernel) ⟨Nat.le_of_ble_eq_true rfl, Nat.le_of_ble_eq_true rfl⟩) hK hN hP hD [0, 1, 2, 3, 4, 5, 6, 7] rfl (by decide) 0 6 rfl rfl rfl hl.1 rfl (Nat.le_of_ble_eq_true rfl) dX7_layWay_20 ⟨Nat.le_of_ble_eq_true rfl, Nat.le_of_ble_eq_true rfl⟩) hP hD hS hA [0, 1, 2, 3, 4, 5, 6, 7] [] [0, 1, 2, 3, 4, 5, 6, 7] rfl rfl (by decide) (by decide) rfl (by decide) (fun H locs hP hD hS => ?_)
    clear hc
    refine lv_iload_n hx hb dX7_layWay_23 rfl (lv_at hl 2 rfl) ?_
    refine lv_istore (lv' := [(4, .int p0), (3, .int r1), (0, .ref (a 0)), (1, .int p0), (2, .int p1)]) hx hb dX7_layWay_24 hl (by decide) rfl (fun ls hl => ?_)
    refine lv_aload_n hx hb dX7_layWay_26 rfl (lv_at hl 2 rfl) ?_
    refine va_get (D := D) (ci := 6) (v := .ref (a 5)) (C := RX7) (T := TX7) (N := 14) hx hb hts iw_X7_layWay_X7 hown hK hP 0 rfl rfl 9 (by decide) (hts (.fieldLink RX7 22 "PassedDutiesModel" "wayAt" "[I") (by decide +kernel)) (fun _ h9 => h9) rfl dX7_layWay_27 ?_
    refine lv_iconst (v := 0) hx hb dX7_layWay_30 (by decide) ?_
    refine lv_iload hx hb dX7_layWay_31 (lv_at hl 0 rfl) ?_
    obtain ⟨hi, hf⟩ := jx_gs hf
    refine va_iast hx hb hK hP hD hS 5 0 rfl rfl (jx_ip hi) dX7_layWay_33 (fun H locs hP hD hS => ?_)
    clear hi
    have hP : va_P D vwCl (wM a cI cL nl np nt nr nh ns nk ne (0 : Int32) (upd na ((0 : Int32)).toNatClampNeg p0) r2 nc ng nx) H := hP
    have hD : va_D A (wM a cI cL nl np nt nr nh ns nk ne (0 : Int32) (upd na ((0 : Int32)).toNatClampNeg p0) r2 nc ng nx) := hD
    refine lv_aload_n hx hb dX7_layWay_34 rfl (lv_at hl 2 rfl) ?_
    refine lv_iconst (v := 1) hx hb dX7_layWay_35 (by decide) ?_
    refine va_put (D := D) (ci := 6) (v := .int (1 : Int32)) (ty := .int) (C := RX7) (T := TX7) (N := 14) hx hb hts iw_X7_layWay_X7 tyX7 tyX7_ok nmX7 hown hK hP hD hS 0 rfl rfl 8 (by decide) (hts (.fieldLink RX7 100 "PassedDutiesModel" "wayMany" "I") (by decide +kernel)) (fun _ h9 => h9) rfl (by decide +kernel) rfl rfl (Nat.le_of_ble_eq_true rfl) dX7_layWay_36 (fun H locs hP hD hS => ?_)
    have hP : va_P D vwCl (wM a cI cL nl np nt nr nh ns nk ne (1 : Int32) (upd na ((0 : Int32)).toNatClampNeg p0) r2 nc ng nx) H := hP
    have hD : va_D A (wM a cI cL nl np nt nr nh ns nk ne (1 : Int32) (upd na ((0 : Int32)).toNatClampNeg p0) r2 nc ng nx) := hD
    obtain ⟨k4, hf, hkk4⟩ := jx_bs hf
    have hXk4 : ∀ (H : Heap) (locs : List Loc) (ls : Array Slot), va_P D vwCl (wM a cI cL nl np nt nr nh ns nk ne k4.1 k4.2 r2 nc ng nx) H → va_D A (wM a cI cL nl np nt nr nh ns nk ne k4.1 k4.2 r2 nc ng nx) → va_S A s.heap H locs → lv_has ls 6 [] → jx_Wv p l e wsX7_layWay ({ frames := 3, cells := 0, slots := 0, locals := 72 }) s m [.ref (a 0), .int p0, .int p1] below meth c D [(cI, .int), (cL, .long)] (wM a cI cL nl np nt nr nh ns nk ne res.1 res.2.1 res.2.2 nc ng nx) A H locs (F0 m 117 ls []) := by
      clear hf hP hD hS hl
      intro H locs ls hP hD hS hl
      have hf := hkk4
      have he := jx_eq hf
      subst he
      exact jx_retv hx hb hr hlocks hK hP hD hS dX7_layWay_117
    have hLk4 : ∀ (n : Nat) (s3 : (Int32 × Int32 × (Nat → Int32))) (H : Heap) (locs : List Loc) (ls : Array Slot), jx_iter (pf_X7_layWay_s1 nh nk r1 r2) n s3 = some k4 → va_P D vwCl (wM a cI cL nl np nt nr nh ns nk ne s3.2.1 s3.2.2 r2 nc ng nx) H → va_D A (wM a cI cL nl np nt nr nh ns nk ne s3.2.1 s3.2.2 r2 nc ng nx) → va_S A s.heap H locs → lv_has ls 6 [(0, .ref (a 0)), (3, .int r1), (4, .int s3.1)] → jx_Wv p l e wsX7_layWay ({ frames := 3, cells := 0, slots := 0, locals := 72 }) s m [.ref (a 0), .int p0, .int p1] below meth c D [(cI, .int), (cL, .long)] (wM a cI cL nl np nt nr nh ns nk ne res.1 res.2.1 res.2.2 nc ng nx) A H locs (F0 m 39 ls []) := by
      clear hf hP hD hS hl
      intro n
      induction n with
      | zero => intro s3 _ _ _ hf; cases hf
      | succ n ihk4 =>
        intro s3 H locs ls hf hP hD hS hl
        obtain ⟨q5, hf, hgk4⟩ := jx_bs hf
        refine lv_aload_n hx hb dX7_layWay_39 rfl (lv_at hl 0 rfl) ?_
        refine va_get (D := D) (ci := 6) (v := .ref (a 6)) (C := RX7) (T := TX7) (N := 14) hx hb hts iw_X7_layWay_X7 hown hK hP 0 rfl rfl 10 (by decide) (hts (.fieldLink RX7 25 "PassedDutiesModel" "far" "[I") (by decide +kernel)) (fun _ h9 => h9) rfl dX7_layWay_40 ?_
        refine lv_iload hx hb dX7_layWay_43 (lv_at hl 2 rfl) ?_
        obtain ⟨hi, hf⟩ := jx_gs hf
        refine va_iald hx hb hK hP 6 0 rfl rfl (jx_ip hi) dX7_layWay_45 ?_
        clear hi
        refine lv_if_le (tgt := 117) hx hb dX7_layWay_46 (by decide) (fun hq => ?_) (fun hq => ?_)
        · replace hf := jx_pos hq hf
          have he := jx_eq hf
          subst he
          have he : _ = k4 := jx_eq hgk4
          subst he
          exact hXk4 _ _ _ hP hD hS (lv_sub hl [] rfl)
        · replace hf := jx_neg hq hf
          refine lv_iconst (v := 0) hx hb dX7_layWay_49 (by decide) ?_
          refine lv_istore (lv' := [(5, .int (0 : Int32)), (0, .ref (a 0)), (3, .int r1), (4, .int s3.1)]) hx hb dX7_layWay_50 hl (by decide) rfl (fun ls hl => ?_)
          obtain ⟨k7, hf, hkk7⟩ := jx_bs hf
          have hXk7 : ∀ (H : Heap) (locs : List Loc) (ls : Array Slot), va_P D vwCl (wM a cI cL nl np nt nr nh ns nk ne s3.2.1 s3.2.2 r2 nc ng nx) H → va_D A (wM a cI cL nl np nt nr nh ns nk ne s3.2.1 s3.2.2 r2 nc ng nx) → va_S A s.heap H locs → lv_has ls 6 [(0, .ref (a 0)), (3, .int r1), (5, .int k7)] → jx_Wv p l e wsX7_layWay ({ frames := 3, cells := 0, slots := 0, locals := 72 }) s m [.ref (a 0), .int p0, .int p1] below meth c D [(cI, .int), (cL, .long)] (wM a cI cL nl np nt nr nh ns nk ne res.1 res.2.1 res.2.2 nc ng nx) A H locs (F0 m 89 ls []) := by
            clear hf hP hD hS hl
            intro H locs ls hP hD hS hl
            have hf := hkk7
            refine lv_iload hx hb dX7_layWay_89 (lv_at hl 2 rfl) ?_
            refine lv_istore (lv' := [(4, .int k7), (0, .ref (a 0)), (3, .int r1), (5, .int k7)]) hx hb dX7_layWay_91 hl (by decide) rfl (fun ls hl => ?_)
            refine lv_aload_n hx hb dX7_layWay_93 rfl (lv_at hl 1 rfl) ?_
            refine va_get (D := D) (ci := 6) (v := .ref (a 5)) (C := RX7) (T := TX7) (N := 14) hx hb hts iw_X7_layWay_X7 hown hK hP 0 rfl rfl 9 (by decide) (hts (.fieldLink RX7 22 "PassedDutiesModel" "wayAt" "[I") (by decide +kernel)) (fun _ h9 => h9) rfl dX7_layWay_94 ?_
            refine lv_aload_n hx hb dX7_layWay_97 rfl (lv_at hl 1 rfl) ?_
            refine va_get (D := D) (ci := 6) (v := .int s3.2.1) (C := RX7) (T := TX7) (N := 14) hx hb hts iw_X7_layWay_X7 hown hK hP 0 rfl rfl 8 (by decide) (hts (.fieldLink RX7 100 "PassedDutiesModel" "wayMany" "I") (by decide +kernel)) (fun _ h9 => h9) rfl dX7_layWay_98 ?_
            refine lv_iload hx hb dX7_layWay_101 (lv_at hl 0 rfl) ?_
            obtain ⟨hi, hf⟩ := jx_gs hf
            refine va_iast hx hb hK hP hD hS 5 0 rfl rfl (jx_ip hi) dX7_layWay_103 (fun H locs hP hD hS => ?_)
            clear hi
            have hP : va_P D vwCl (wM a cI cL nl np nt nr nh ns nk ne s3.2.1 (upd s3.2.2 (s3.2.1).toNatClampNeg k7) r2 nc ng nx) H := hP
            have hD : va_D A (wM a cI cL nl np nt nr nh ns nk ne s3.2.1 (upd s3.2.2 (s3.2.1).toNatClampNeg k7) r2 nc ng nx) := hD
            refine lv_aload_n hx hb dX7_layWay_104 rfl (lv_at hl 1 rfl) ?_
            refine lv_dup hx hb dX7_layWay_105 rfl ?_
            refine va_get (D := D) (ci := 6) (v := .int s3.2.1) (C := RX7) (T := TX7) (N := 14) hx hb hts iw_X7_layWay_X7 hown hK hP 0 rfl rfl 8 (by decide) (hts (.fieldLink RX7 100 "PassedDutiesModel" "wayMany" "I") (by decide +kernel)) (fun _ h9 => h9) rfl dX7_layWay_106 ?_
            refine lv_iconst (v := 1) hx hb dX7_layWay_109 (by decide) ?_
            refine lv_iadd hx hb dX7_layWay_110 ?_
            refine va_put (D := D) (ci := 6) (v := .int (s3.2.1 + (1 : Int32))) (ty := .int) (C := RX7) (T := TX7) (N := 14) hx hb hts iw_X7_layWay_X7 tyX7 tyX7_ok nmX7 hown hK hP hD hS 0 rfl rfl 8 (by decide) (hts (.fieldLink RX7 100 "PassedDutiesModel" "wayMany" "I") (by decide +kernel)) (fun _ h9 => h9) rfl (by decide +kernel) rfl rfl (Nat.le_of_ble_eq_true rfl) dX7_layWay_111 (fun H locs hP hD hS => ?_)
            have hP : va_P D vwCl (wM a cI cL nl np nt nr nh ns nk ne (s3.2.1 + (1 : Int32)) (upd s3.2.2 (s3.2.1).toNatClampNeg k7) r2 nc ng nx) H := hP
            have hD : va_D A (wM a cI cL nl np nt nr nh ns nk ne (s3.2.1 + (1 : Int32)) (upd s3.2.2 (s3.2.1).toNatClampNeg k7) r2 nc ng nx) := hD
            refine lv_goto (tgt := 39) hx hb dX7_layWay_114 (by decide) ?_
            have he := jx_eq hf
            subst he
            exact ihk4 (k7, (s3.2.1 + (1 : Int32)), (upd s3.2.2 (s3.2.1).toNatClampNeg k7)) _ _ _ hgk4 hP hD hS (lv_sub hl [1, 2, 0] rfl)
          have hLk7 : ∀ (n : Nat) (s6 : Int32) (H : Heap) (locs : List Loc) (ls : Array Slot), jx_iter (pf_X7_layWay_s2 nh nk r1 r2 s3) n s6 = some k7 → va_P D vwCl (wM a cI cL nl np nt nr nh ns nk ne s3.2.1 s3.2.2 r2 nc ng nx) H → va_D A (wM a cI cL nl np nt nr nh ns nk ne s3.2.1 s3.2.2 r2 nc ng nx) → va_S A s.heap H locs → lv_has ls 6 [(0, .ref (a 0)), (3, .int r1), (4, .int s3.1), (5, .int s6)] → jx_Wv p l e wsX7_layWay ({ frames := 3, cells := 0, slots := 0, locals := 72 }) s m [.ref (a 0), .int p0, .int p1] below meth c D [(cI, .int), (cL, .long)] (wM a cI cL nl np nt nr nh ns nk ne res.1 res.2.1 res.2.2 nc ng nx) A H locs (F0 m 52 ls []) := by
            clear hf hP hD hS hl
            intro n
            induction n with
            | zero => intro s6 _ _ _ hf; cases hf
            | succ n ihk7 =>
              intro s6 H locs ls hf hP hD hS hl
              obtain ⟨q8, hf, hgk7⟩ := jx_bs hf
              refine lv_aload_n hx hb dX7_layWay_52 rfl (lv_at hl 0 rfl) ?_
              refine lv_iload hx hb dX7_layWay_53 (lv_at hl 2 rfl) ?_
              refine lv_iload hx hb dX7_layWay_55 (lv_at hl 3 rfl) ?_
              refine lv_iload_n hx hb dX7_layWay_57 rfl (lv_at hl 1 rfl) ?_
              obtain ⟨r9, hc, hf⟩ := jx_bs hf
              refine jx_ki (wr := []) (ws2 := (wM a cI cL nl np nt nr nh ns nk ne s3.2.1 s3.2.2 r2 nc ng nx)) (jx_runV (As := [.int s3.1, .int s6, .int r1]) (rest := []) ⟨hx, hb, hml, hown, hts⟩ (c_X7_isLet l D a cI cL nl np nt nr nh ns nk ne s3.2.1 s3.2.2 r2 nc ng nx s3.1 s6 r1 r9 hc _) (cwV 3 hts gX7_layWay_X7_isLet rfl rfl rfl (by decide +kernel) ⟨Nat.le_of_ble_eq_true rfl, Nat.le_of_ble_eq_true rfl⟩) hK hN hP hD [0, 1, 2, 3, 4, 5, 6, 7] rfl (by decide) 0 6 rfl rfl rfl hl.1 rfl (Nat.le_of_ble_eq_true rfl) dX7_layWay_58 ⟨Nat.le_of_ble_eq_true rfl, Nat.le_of_ble_eq_true rfl⟩) hP hD hS hA [0, 1, 2, 3, 4, 5, 6, 7] [] [0, 1, 2, 3, 4, 5, 6, 7] rfl rfl (by decide) (by decide) rfl (by decide) (fun H locs hP hD hS => ?_)
              clear hc
              refine lv_if_eq (tgt := 83) hx hb dX7_layWay_61 (by decide) (fun hq => ?_) (fun hq => ?_)
              · replace hf := jx_pos hq hf
                refine lv_iinc (v := (s6 + (1 : Int32))) (lv' := [(5, .int (s6 + (1 : Int32))), (0, .ref (a 0)), (3, .int r1), (4, .int s3.1)]) hx hb dX7_layWay_83 hl (k := 3) rfl rfl (by decide) rfl (fun ls hl => ?_)
                refine lv_goto (tgt := 52) hx hb dX7_layWay_86 (by decide) ?_
                have he := jx_eq hf
                subst he
                exact ihk7 (s6 + (1 : Int32)) _ _ _ hgk7 hP hD hS (lv_sub hl [1, 2, 3, 0] rfl)
              · replace hf := jx_neg hq hf
                refine lv_aload_n hx hb dX7_layWay_64 rfl (lv_at hl 0 rfl) ?_
                refine va_get (D := D) (ci := 6) (v := .ref (a 6)) (C := RX7) (T := TX7) (N := 14) hx hb hts iw_X7_layWay_X7 hown hK hP 0 rfl rfl 10 (by decide) (hts (.fieldLink RX7 25 "PassedDutiesModel" "far" "[I") (by decide +kernel)) (fun _ h9 => h9) rfl dX7_layWay_65 ?_
                refine lv_iload hx hb dX7_layWay_68 (lv_at hl 3 rfl) ?_
                obtain ⟨hi, hf⟩ := jx_gs hf
                refine va_iald hx hb hK hP 6 0 rfl rfl (jx_ip hi) dX7_layWay_70 ?_
                clear hi
                refine lv_iconst (v := 1) hx hb dX7_layWay_71 (by decide) ?_
                refine lv_iadd hx hb dX7_layWay_72 ?_
                refine lv_aload_n hx hb dX7_layWay_73 rfl (lv_at hl 0 rfl) ?_
                refine va_get (D := D) (ci := 6) (v := .ref (a 6)) (C := RX7) (T := TX7) (N := 14) hx hb hts iw_X7_layWay_X7 hown hK hP 0 rfl rfl 10 (by decide) (hts (.fieldLink RX7 25 "PassedDutiesModel" "far" "[I") (by decide +kernel)) (fun _ h9 => h9) rfl dX7_layWay_74 ?_
                refine lv_iload hx hb dX7_layWay_77 (lv_at hl 2 rfl) ?_
                obtain ⟨hi, hf⟩ := jx_gs hf
                refine va_iald hx hb hK hP 6 0 rfl rfl (jx_ip hi) dX7_layWay_79 ?_
                clear hi
                refine lv_icmp_eq (tgt := 89) hx hb dX7_layWay_80 (by decide) (fun hq => ?_) (fun hq => ?_)
                · replace hf := jx_pos hq hf
                  have he := jx_eq hf
                  subst he
                  have he : _ = k7 := jx_eq hgk7
                  subst he
                  exact hXk7 _ _ _ hP hD hS (lv_sub hl [0, 1, 3] rfl)
                · replace hf := jx_neg hq hf
                  refine lv_iinc (v := (s6 + (1 : Int32))) (lv' := [(5, .int (s6 + (1 : Int32))), (0, .ref (a 0)), (3, .int r1), (4, .int s3.1)]) hx hb dX7_layWay_83 hl (k := 3) rfl rfl (by decide) rfl (fun ls hl => ?_)
                  refine lv_goto (tgt := 52) hx hb dX7_layWay_86 (by decide) ?_
                  have he := jx_eq hf
                  subst he
                  exact ihk7 (s6 + (1 : Int32)) _ _ _ hgk7 hP hD hS (lv_sub hl [1, 2, 3, 0] rfl)
          exact hLk7 jx_F (0 : Int32) _ _ _ hf hP hD hS (lv_sub hl [1, 2, 3, 0] rfl)
    exact hLk4 jx_F (p0, (1 : Int32), (upd na ((0 : Int32)).toNatClampNeg p0)) _ _ _ hf hP hD hS (lv_sub hl [2, 1, 0] rfl)
  · replace hf := jx_negn hq hf
    have he := jx_eq hf
    subst he
    exact jx_retv hx hb hr hlocks hK hP hD hS dX7_layWay_16
theorem iw_X7_leave_X7 : ∀ w ∈ wsX70, w ∈ wsX7_leave := by decide +kernel
set_option maxHeartbeats 4000000 in
set_option maxRecDepth 100000 in
theorem c_X7_leave (l : Launch) (D : va_G) (a : Nat → Nat) (cI cL : ClassId) (nl : Int32) (np : (Nat → Int32)) (nt : Int32) (nr : (Nat → Int32)) (nh : Int32) (ns : (Nat → Int32)) (nk : (Nat → Int32)) (ne : Int32) (nw : Int32) (na : (Nat → Int32)) (nf : (Nat → Int32)) (nc : Int32) (ng : (Nat → Int32)) (nx : Int64) (p0 : Int32) (res : (Int32 × Int32 × Int32)) (hf : pf_X7_leave nh nk ne p0 = some res) : jMi l yX7_leave wsX7_leave ({ frames := 2, cells := 0, slots := 0, locals := 44 }) D [(cI, .int), (cL, .long)] [.ref (a 0), .int p0] (wM a cI cL nl np nt nr nh ns nk ne nw na nf nc ng nx) res.1 (wM a cI cL nl np nt nr res.2.1 ns nk res.2.2 nw na nf nc ng nx) := by
  intro sz
  refine Met.ofW (cc := cX7_leave) (maxL := 3) (ret := (some .int)) (by decide) rfl ?_
  intro p e s m args below meth c s₁ B hml hv
  obtain ⟨rfl, hsz, hP, hK, hD0, hN⟩ := hv
  have hx := B.exec
  have hb := B.bytes
  have hr := B.returns
  have hts := atoms_spec (ws := wsX7_leave) B.pre
  have hown : s.vm.findClass RX7 = some m.cls := findClass_of_methodNamed B.named
  have hlocks := B.notSynchronized
  subst hsz
  have hD := hD0.self (sz := s.heap.size)
  generalize hAe : va_A (wM a cI cL nl np nt nr nh ns nk ne nw na nf nc ng nx) s.heap.size = A at hD ⊢
  have hA : ∀ q : Nat, s.heap.size ≤ q → A q := fun q h => by rw [← hAe]; exact Or.inr h
  have hS : va_S A s.heap s.heap [] := va_S.rf
  have hl := lv_entry ([.ref (a 0), .int p0]) (n := 3) (Nat.le_of_ble_eq_true rfl)
  rw [lg_entry_eq]
  generalize (lg_sl ([.ref (a 0), .int p0]) ++ List.replicate (3 - (lg_sl ([.ref (a 0), .int p0])).length) Slot.unset).toArray = ls at hl ⊢
  have hl : lv_has ls 3 [(0, .ref (a 0)), (1, .int p0)] := hl
  have hf : pf_X7_leave nh nk ne p0 = some res := hf
  refine lv_aload_n hx hb dX7_leave_0 rfl (lv_at hl 0 rfl) ?_
  refine lv_iload_n hx hb dX7_leave_1 rfl (lv_at hl 1 rfl) ?_
  obtain ⟨r1, hc, hf⟩ := jx_bs hf
  refine jx_ki (wr := []) (ws2 := (wM a cI cL nl np nt nr nh ns nk ne nw na nf nc ng nx)) (jx_runV (As := [.int p0]) (rest := []) ⟨hx, hb, hml, hown, hts⟩ (c_X7_isPart l D a cI cL nl np nt nr nh ns nk ne nw na nf nc ng nx p0 r1 hc _) (cwV 1 hts gX7_leave_X7_isPart rfl rfl rfl (by decide +kernel) ⟨Nat.le_of_ble_eq_true rfl, Nat.le_of_ble_eq_true rfl⟩) hK hN hP hD [0, 1, 2, 3, 4, 5, 6, 7] rfl (by decide) 0 6 rfl rfl rfl hl.1 rfl (Nat.le_of_ble_eq_true rfl) dX7_leave_2 ⟨Nat.le_of_ble_eq_true rfl, Nat.le_of_ble_eq_true rfl⟩) hP hD hS hA [0, 1, 2, 3, 4, 5, 6, 7] [] [0, 1, 2, 3, 4, 5, 6, 7] rfl rfl (by decide) (by decide) rfl (by decide) (fun H locs hP hD hS => ?_)
  clear hc
  refine lv_if_ne (tgt := 12) hx hb dX7_leave_5 (by decide) (fun hq => ?_) (fun hq => ?_)
  · replace hf := jx_pos hq hf
    refine lv_aload_n hx hb dX7_leave_12 rfl (lv_at hl 0 rfl) ?_
    refine lv_iload_n hx hb dX7_leave_13 rfl (lv_at hl 1 rfl) ?_
    obtain ⟨r2, hc, hf⟩ := jx_bs hf
    refine jx_ki (wr := []) (ws2 := (wM a cI cL nl np nt nr nh ns nk ne nw na nf nc ng nx)) (jx_runV (As := [.int p0]) (rest := []) ⟨hx, hb, hml, hown, hts⟩ (c_X7_usesOf l D a cI cL nl np nt nr nh ns nk ne nw na nf nc ng nx p0 r2 hc _) (cwV 1 hts gX7_leave_X7_usesOf rfl rfl rfl (by decide +kernel) ⟨Nat.le_of_ble_eq_true rfl, Nat.le_of_ble_eq_true rfl⟩) hK hN hP hD [0, 1, 2, 3, 4, 5, 6, 7] rfl (by decide) 0 6 rfl rfl rfl hl.1 rfl (Nat.le_of_ble_eq_true rfl) dX7_leave_14 ⟨Nat.le_of_ble_eq_true rfl, Nat.le_of_ble_eq_true rfl⟩) hP hD hS hA [0, 1, 2, 3, 4, 5, 6, 7] [] [0, 1, 2, 3, 4, 5, 6, 7] rfl rfl (by decide) (by decide) rfl (by decide) (fun H locs hP hD hS => ?_)
    clear hc
    refine lv_aload_n hx hb dX7_leave_17 rfl (lv_at hl 0 rfl) ?_
    refine lv_iload_n hx hb dX7_leave_18 rfl (lv_at hl 1 rfl) ?_
    obtain ⟨r3, hc, hf⟩ := jx_bs hf
    refine jx_ki (wr := []) (ws2 := (wM a cI cL nl np nt nr nh ns nk ne nw na nf nc ng nx)) (jx_runV (As := [.int p0]) (rest := [.int r2]) ⟨hx, hb, hml, hown, hts⟩ (c_X7_usersOf l D a cI cL nl np nt nr nh ns nk ne nw na nf nc ng nx p0 r3 hc _) (cwV 1 hts gX7_leave_X7_usersOf rfl rfl rfl (by decide +kernel) ⟨Nat.le_of_ble_eq_true rfl, Nat.le_of_ble_eq_true rfl⟩) hK hN hP hD [0, 1, 2, 3, 4, 5, 6, 7] rfl (by decide) 0 6 rfl rfl rfl hl.1 rfl (Nat.le_of_ble_eq_true rfl) dX7_leave_19 ⟨Nat.le_of_ble_eq_true rfl, Nat.le_of_ble_eq_true rfl⟩) hP hD hS hA [0, 1, 2, 3, 4, 5, 6, 7] [] [0, 1, 2, 3, 4, 5, 6, 7] rfl rfl (by decide) (by decide) rfl (by decide) (fun H locs hP hD hS => ?_)
    clear hc
    refine lv_iadd hx hb dX7_leave_22 ?_
    refine lv_istore_n (lv' := [(2, .int (r2 + r3)), (0, .ref (a 0)), (1, .int p0)]) hx hb dX7_leave_23 rfl hl (by decide) rfl (fun ls hl => ?_)
    refine lv_aload_n hx hb dX7_leave_24 rfl (lv_at hl 1 rfl) ?_
    refine lv_dup hx hb dX7_leave_25 rfl ?_
    refine va_get (D := D) (ci := 6) (v := .int nh) (C := RX7) (T := TX7) (N := 14) hx hb hts iw_X7_leave_X7 hown hK hP 0 rfl rfl 4 (by decide) (hts (.fieldLink RX7 65 "PassedDutiesModel" "there" "I") (by decide +kernel)) (fun _ h9 => h9) rfl dX7_leave_26 ?_
    refine lv_iconst (v := 1) hx hb dX7_leave_29 (by decide) ?_
    refine lv_iload_n hx hb dX7_leave_30 rfl (lv_at hl 2 rfl) ?_
    refine lv_ishl hx hb dX7_leave_31 ?_
    refine lv_iconst (v := -1) hx hb dX7_leave_32 (by decide) ?_
    refine lv_ixor hx hb dX7_leave_33 ?_
    refine lv_iand hx hb dX7_leave_34 ?_
    refine va_put (D := D) (ci := 6) (v := .int (nh &&& (((1 : Int32) <<< (p0 &&& 31)) ^^^ (-1 : Int32)))) (ty := .int) (C := RX7) (T := TX7) (N := 14) hx hb hts iw_X7_leave_X7 tyX7 tyX7_ok nmX7 hown hK hP hD hS 0 rfl rfl 4 (by decide) (hts (.fieldLink RX7 65 "PassedDutiesModel" "there" "I") (by decide +kernel)) (fun _ h9 => h9) rfl (by decide +kernel) rfl rfl (Nat.le_of_ble_eq_true rfl) dX7_leave_35 (fun H locs hP hD hS => ?_)
    have hP : va_P D vwCl (wM a cI cL nl np nt nr (nh &&& (((1 : Int32) <<< (p0 &&& 31)) ^^^ (-1 : Int32))) ns nk ne nw na nf nc ng nx) H := hP
    have hD : va_D A (wM a cI cL nl np nt nr (nh &&& (((1 : Int32) <<< (p0 &&& 31)) ^^^ (-1 : Int32))) ns nk ne nw na nf nc ng nx) := hD
    refine lv_aload_n hx hb dX7_leave_38 rfl (lv_at hl 1 rfl) ?_
    refine lv_dup hx hb dX7_leave_39 rfl ?_
    refine va_get (D := D) (ci := 6) (v := .int ne) (C := RX7) (T := TX7) (N := 14) hx hb hts iw_X7_leave_X7 hown hK hP 0 rfl rfl 7 (by decide) (hts (.fieldLink RX7 80 "PassedDutiesModel" "left" "I") (by decide +kernel)) (fun _ h9 => h9) rfl dX7_leave_40 ?_
    refine lv_iconst (v := 1) hx hb dX7_leave_43 (by decide) ?_
    refine lv_iadd hx hb dX7_leave_44 ?_
    refine va_put (D := D) (ci := 6) (v := .int (ne + (1 : Int32))) (ty := .int) (C := RX7) (T := TX7) (N := 14) hx hb hts iw_X7_leave_X7 tyX7 tyX7_ok nmX7 hown hK hP hD hS 0 rfl rfl 7 (by decide) (hts (.fieldLink RX7 80 "PassedDutiesModel" "left" "I") (by decide +kernel)) (fun _ h9 => h9) rfl (by decide +kernel) rfl rfl (Nat.le_of_ble_eq_true rfl) dX7_leave_45 (fun H locs hP hD hS => ?_)
    have hP : va_P D vwCl (wM a cI cL nl np nt nr (nh &&& (((1 : Int32) <<< (p0 &&& 31)) ^^^ (-1 : Int32))) ns nk (ne + (1 : Int32)) nw na nf nc ng nx) H := hP
    have hD : va_D A (wM a cI cL nl np nt nr (nh &&& (((1 : Int32) <<< (p0 &&& 31)) ^^^ (-1 : Int32))) ns nk (ne + (1 : Int32)) nw na nf nc ng nx) := hD
    refine lv_iload_n hx hb dX7_leave_48 rfl (lv_at hl 0 rfl) ?_
    have he := jx_eq hf
    subst he
    exact jx_reti hx hb hr hlocks rfl hK hP hD hS dX7_leave_49
  · replace hf := jx_negn hq hf
    refine lv_sipush (v := -1001) hx hb dX7_leave_8 (by decide) ?_
    have he := jx_eq hf
    subst he
    exact jx_reti hx hb hr hlocks rfl hK hP hD hS dX7_leave_11
theorem iw_X7_letter_X7 : ∀ w ∈ wsX70, w ∈ wsX7_letter := by decide +kernel
set_option maxHeartbeats 4000000 in
set_option maxRecDepth 100000 in
theorem c_X7_letter (l : Launch) (D : va_G) (a : Nat → Nat) (cI cL : ClassId) (nl : Int32) (np : (Nat → Int32)) (nt : Int32) (nr : (Nat → Int32)) (nh : Int32) (ns : (Nat → Int32)) (nk : (Nat → Int32)) (ne : Int32) (nw : Int32) (na : (Nat → Int32)) (nf : (Nat → Int32)) (nc : Int32) (ng : (Nat → Int32)) (nx : Int64) (p0 : Int32) (res : (Int32 × Int32 × (Nat → Int32))) (hf : pf_X7_letter nl np p0 = some res) : jMi l yX7_letter wsX7_letter ({ frames := 1, cells := 0, slots := 0, locals := 22 }) D [(cI, .int), (cL, .long)] [.ref (a 0), .int p0] (wM a cI cL nl np nt nr nh ns nk ne nw na nf nc ng nx) res.1 (wM a cI cL res.2.1 res.2.2 nt nr nh ns nk ne nw na nf nc ng nx) := by
  intro sz
  refine Met.ofW (cc := cX7_letter) (maxL := 2) (ret := (some .int)) (by decide) rfl ?_
  intro p e s m args below meth c s₁ B hml hv
  obtain ⟨rfl, hsz, hP, hK, hD0, hN⟩ := hv
  have hx := B.exec
  have hb := B.bytes
  have hr := B.returns
  have hts := atoms_spec (ws := wsX7_letter) B.pre
  have hown : s.vm.findClass RX7 = some m.cls := findClass_of_methodNamed B.named
  have hlocks := B.notSynchronized
  subst hsz
  have hD := hD0.self (sz := s.heap.size)
  generalize hAe : va_A (wM a cI cL nl np nt nr nh ns nk ne nw na nf nc ng nx) s.heap.size = A at hD ⊢
  have hA : ∀ q : Nat, s.heap.size ≤ q → A q := fun q h => by rw [← hAe]; exact Or.inr h
  have hS : va_S A s.heap s.heap [] := va_S.rf
  have hl := lv_entry ([.ref (a 0), .int p0]) (n := 2) (Nat.le_of_ble_eq_true rfl)
  rw [lg_entry_eq]
  generalize (lg_sl ([.ref (a 0), .int p0]) ++ List.replicate (2 - (lg_sl ([.ref (a 0), .int p0])).length) Slot.unset).toArray = ls at hl ⊢
  have hl : lv_has ls 2 [(0, .ref (a 0)), (1, .int p0)] := hl
  have hf : pf_X7_letter nl np p0 = some res := hf
  refine lv_iload_n hx hb dX7_letter_0 rfl (lv_at hl 1 rfl) ?_
  refine lv_bipush (v := 32) hx hb dX7_letter_1 (by decide) ?_
  refine lv_bipush (v := 126) hx hb dX7_letter_3 (by decide) ?_
  obtain ⟨r1, hc, hf⟩ := jx_bs hf
  refine jx_ki (wr := [((a 0), .inr (6, [.int nl, .ref (a 1), .int nt, .ref (a 2), .int nh, .ref (a 3), .ref (a 4), .int ne, .int nw, .ref (a 5), .ref (a 6), .int nc, .ref (a 7), .long nx])), ((a 1), .inl (cI, 24, .inl np)), ((a 2), .inl (cI, 108, .inl nr)), ((a 3), .inl (cI, 8, .inl ns)), ((a 4), .inl (cI, 64, .inl nk)), ((a 5), .inl (cI, 8, .inl na)), ((a 6), .inl (cI, 8, .inl nf)), ((a 7), .inl (cI, 48, .inl ng))]) (ws2 := (wM a cI cL nl np nt nr nh ns nk ne nw na nf nc ng nx)) (jx_runS (As := [.int p0, .int (32 : Int32), .int (126 : Int32)]) (rest := []) ⟨hx, hb, hml, hown, hts⟩ (c_X7_within l D a cI cL p0 (32 : Int32) (126 : Int32) r1 hc _) (va_cwS 3 hts gX7_letter_X7_within rfl rfl rfl (by decide +kernel) ⟨Nat.le_of_ble_eq_true rfl, Nat.le_of_ble_eq_true rfl⟩) hK hN hP hD [] rfl (by decide) rfl hl.1 rfl (Nat.le_of_ble_eq_true rfl) dX7_letter_5 ⟨Nat.le_of_ble_eq_true rfl, Nat.le_of_ble_eq_true rfl⟩) hP hD hS hA [] [0, 1, 2, 3, 4, 5, 6, 7] [0, 1, 2, 3, 4, 5, 6, 7] rfl rfl (by decide) (by decide) rfl (by decide) (fun H locs hP hD hS => ?_)
  clear hc
  refine lv_if_ne (tgt := 15) hx hb dX7_letter_8 (by decide) (fun hq => ?_) (fun hq => ?_)
  · replace hf := jx_pos hq hf
    refine lv_aload_n hx hb dX7_letter_15 rfl (lv_at hl 0 rfl) ?_
    refine va_get (D := D) (ci := 6) (v := .int nl) (C := RX7) (T := TX7) (N := 14) hx hb hts iw_X7_letter_X7 hown hK hP 0 rfl rfl 0 (by decide) (hts (.fieldLink RX7 35 "PassedDutiesModel" "pageLength" "I") (by decide +kernel)) (fun _ h9 => h9) rfl dX7_letter_16 ?_
    refine lv_bipush (v := 24) hx hb dX7_letter_19 (by decide) ?_
    refine lv_icmp_ne (tgt := 28) hx hb dX7_letter_21 (by decide) (fun hq => ?_) (fun hq => ?_)
    · replace hf := jx_pos hq hf
      refine lv_aload_n hx hb dX7_letter_28 rfl (lv_at hl 0 rfl) ?_
      refine va_get (D := D) (ci := 6) (v := .ref (a 1)) (C := RX7) (T := TX7) (N := 14) hx hb hts iw_X7_letter_X7 hown hK hP 0 rfl rfl 1 (by decide) (hts (.fieldLink RX7 7 "PassedDutiesModel" "page" "[I") (by decide +kernel)) (fun _ h9 => h9) rfl dX7_letter_29 ?_
      refine lv_aload_n hx hb dX7_letter_32 rfl (lv_at hl 0 rfl) ?_
      refine va_get (D := D) (ci := 6) (v := .int nl) (C := RX7) (T := TX7) (N := 14) hx hb hts iw_X7_letter_X7 hown hK hP 0 rfl rfl 0 (by decide) (hts (.fieldLink RX7 35 "PassedDutiesModel" "pageLength" "I") (by decide +kernel)) (fun _ h9 => h9) rfl dX7_letter_33 ?_
      refine lv_iload_n hx hb dX7_letter_36 rfl (lv_at hl 1 rfl) ?_
      obtain ⟨hi, hf⟩ := jx_gs hf
      refine va_iast hx hb hK hP hD hS 1 0 rfl rfl (jx_ip hi) dX7_letter_37 (fun H locs hP hD hS => ?_)
      clear hi
      have hP : va_P D vwCl (wM a cI cL nl (upd np (nl).toNatClampNeg p0) nt nr nh ns nk ne nw na nf nc ng nx) H := hP
      have hD : va_D A (wM a cI cL nl (upd np (nl).toNatClampNeg p0) nt nr nh ns nk ne nw na nf nc ng nx) := hD
      refine lv_aload_n hx hb dX7_letter_38 rfl (lv_at hl 0 rfl) ?_
      refine lv_dup hx hb dX7_letter_39 rfl ?_
      refine va_get (D := D) (ci := 6) (v := .int nl) (C := RX7) (T := TX7) (N := 14) hx hb hts iw_X7_letter_X7 hown hK hP 0 rfl rfl 0 (by decide) (hts (.fieldLink RX7 35 "PassedDutiesModel" "pageLength" "I") (by decide +kernel)) (fun _ h9 => h9) rfl dX7_letter_40 ?_
      refine lv_iconst (v := 1) hx hb dX7_letter_43 (by decide) ?_
      refine lv_iadd hx hb dX7_letter_44 ?_
      refine va_put (D := D) (ci := 6) (v := .int (nl + (1 : Int32))) (ty := .int) (C := RX7) (T := TX7) (N := 14) hx hb hts iw_X7_letter_X7 tyX7 tyX7_ok nmX7 hown hK hP hD hS 0 rfl rfl 0 (by decide) (hts (.fieldLink RX7 35 "PassedDutiesModel" "pageLength" "I") (by decide +kernel)) (fun _ h9 => h9) rfl (by decide +kernel) rfl rfl (Nat.le_of_ble_eq_true rfl) dX7_letter_45 (fun H locs hP hD hS => ?_)
      have hP : va_P D vwCl (wM a cI cL (nl + (1 : Int32)) (upd np (nl).toNatClampNeg p0) nt nr nh ns nk ne nw na nf nc ng nx) H := hP
      have hD : va_D A (wM a cI cL (nl + (1 : Int32)) (upd np (nl).toNatClampNeg p0) nt nr nh ns nk ne nw na nf nc ng nx) := hD
      refine lv_aload_n hx hb dX7_letter_48 rfl (lv_at hl 0 rfl) ?_
      refine va_get (D := D) (ci := 6) (v := .int (nl + (1 : Int32))) (C := RX7) (T := TX7) (N := 14) hx hb hts iw_X7_letter_X7 hown hK hP 0 rfl rfl 0 (by decide) (hts (.fieldLink RX7 35 "PassedDutiesModel" "pageLength" "I") (by decide +kernel)) (fun _ h9 => h9) rfl dX7_letter_49 ?_
      have he := jx_eq hf
      subst he
      exact jx_reti hx hb hr hlocks rfl hK hP hD hS dX7_letter_52
    · replace hf := jx_negn hq hf
      refine lv_sipush (v := -1004) hx hb dX7_letter_24 (by decide) ?_
      have he := jx_eq hf
      subst he
      exact jx_reti hx hb hr hlocks rfl hK hP hD hS dX7_letter_27
  · replace hf := jx_negn hq hf
    refine lv_sipush (v := -1002) hx hb dX7_letter_11 (by decide) ?_
    have he := jx_eq hf
    subst he
    exact jx_reti hx hb hr hlocks rfl hK hP hD hS dX7_letter_14
theorem iw_X7_likeRead_X7 : ∀ w ∈ wsX70, w ∈ wsX7_likeRead := by decide +kernel
set_option maxHeartbeats 4000000 in
set_option maxRecDepth 100000 in
theorem c_X7_likeRead (l : Launch) (D : va_G) (a : Nat → Nat) (cI cL : ClassId) (nl : Int32) (np : (Nat → Int32)) (nt : Int32) (nr : (Nat → Int32)) (nh : Int32) (ns : (Nat → Int32)) (nk : (Nat → Int32)) (ne : Int32) (nw : Int32) (na : (Nat → Int32)) (nf : (Nat → Int32)) (nc : Int32) (ng : (Nat → Int32)) (nx : Int64) (p0 : Int32) (res : Int32) (hf : pf_X7_likeRead nt nr p0 = some res) : jMi l yX7_likeRead wsX7_likeRead ({ frames := 0, cells := 0, slots := 0, locals := 0 }) D [(cI, .int), (cL, .long)] [.ref (a 0), .int p0] (wM a cI cL nl np nt nr nh ns nk ne nw na nf nc ng nx) res (wM a cI cL nl np nt nr nh ns nk ne nw na nf nc ng nx) := by
  intro sz
  refine Met.ofW (cc := cX7_likeRead) (maxL := 5) (ret := (some .int)) (by decide) rfl ?_
  intro p e s m args below meth c s₁ B hml hv
  obtain ⟨rfl, hsz, hP, hK, hD0, hN⟩ := hv
  have hx := B.exec
  have hb := B.bytes
  have hr := B.returns
  have hts := atoms_spec (ws := wsX7_likeRead) B.pre
  have hown : s.vm.findClass RX7 = some m.cls := findClass_of_methodNamed B.named
  have hlocks := B.notSynchronized
  subst hsz
  have hD := hD0.self (sz := s.heap.size)
  generalize hAe : va_A (wM a cI cL nl np nt nr nh ns nk ne nw na nf nc ng nx) s.heap.size = A at hD ⊢
  have hA : ∀ q : Nat, s.heap.size ≤ q → A q := fun q h => by rw [← hAe]; exact Or.inr h
  have hS : va_S A s.heap s.heap [] := va_S.rf
  have hl := lv_entry ([.ref (a 0), .int p0]) (n := 5) (Nat.le_of_ble_eq_true rfl)
  rw [lg_entry_eq]
  generalize (lg_sl ([.ref (a 0), .int p0]) ++ List.replicate (5 - (lg_sl ([.ref (a 0), .int p0])).length) Slot.unset).toArray = ls at hl ⊢
  have hl : lv_has ls 5 [(0, .ref (a 0)), (1, .int p0)] := hl
  have hf : pf_X7_likeRead nt nr p0 = some res := hf
  refine lv_iconst (v := 0) hx hb dX7_likeRead_0 (by decide) ?_
  refine lv_istore_n (lv' := [(2, .int (0 : Int32)), (0, .ref (a 0)), (1, .int p0)]) hx hb dX7_likeRead_1 rfl hl (by decide) rfl (fun ls hl => ?_)
  obtain ⟨k2, hf, hkk2⟩ := jx_bs hf
  have hXk2 : ∀ (xk2 : Unit), k2 = Sum.inl xk2 → ∀ (H : Heap) (locs : List Loc) (ls : Array Slot), va_P D vwCl (wM a cI cL nl np nt nr nh ns nk ne nw na nf nc ng nx) H → va_D A (wM a cI cL nl np nt nr nh ns nk ne nw na nf nc ng nx) → va_S A s.heap H locs → lv_has ls 5 [] → jx_Wi p l e wsX7_likeRead ({ frames := 0, cells := 0, slots := 0, locals := 0 }) s m [.ref (a 0), .int p0] below meth c D [(cI, .int), (cL, .long)] res (wM a cI cL nl np nt nr nh ns nk ne nw na nf nc ng nx) A H locs (F0 m 74 ls []) := by
    clear hf hP hD hS hl
    intro xk2 he H locs ls hP hD hS hl
    subst he
    have hf := hkk2
    refine lv_iconst (v := -1) hx hb dX7_likeRead_74 (by decide) ?_
    have he := jx_eq hf
    subst he
    exact jx_reti hx hb hr hlocks rfl hK hP hD hS dX7_likeRead_75
  have hLk2 : ∀ (n : Nat) (s1 : Int32) (H : Heap) (locs : List Loc) (ls : Array Slot), jx_iter (pf_X7_likeRead_s1 nt nr p0) n s1 = some k2 → va_P D vwCl (wM a cI cL nl np nt nr nh ns nk ne nw na nf nc ng nx) H → va_D A (wM a cI cL nl np nt nr nh ns nk ne nw na nf nc ng nx) → va_S A s.heap H locs → lv_has ls 5 [(0, .ref (a 0)), (1, .int p0), (2, .int s1)] → jx_Wi p l e wsX7_likeRead ({ frames := 0, cells := 0, slots := 0, locals := 0 }) s m [.ref (a 0), .int p0] below meth c D [(cI, .int), (cL, .long)] res (wM a cI cL nl np nt nr nh ns nk ne nw na nf nc ng nx) A H locs (F0 m 2 ls []) := by
    clear hf hP hD hS hl
    intro n
    induction n with
    | zero => intro s1 _ _ _ hf; cases hf
    | succ n ihk2 =>
      intro s1 H locs ls hf hP hD hS hl
      obtain ⟨q3, hf, hgk2⟩ := jx_bs hf
      refine lv_iload_n hx hb dX7_likeRead_2 rfl (lv_at hl 2 rfl) ?_
      refine lv_aload_n hx hb dX7_likeRead_3 rfl (lv_at hl 0 rfl) ?_
      refine va_get (D := D) (ci := 6) (v := .int nt) (C := RX7) (T := TX7) (N := 14) hx hb hts iw_X7_likeRead_X7 hown hK hP 0 rfl rfl 2 (by decide) (hts (.fieldLink RX7 47 "PassedDutiesModel" "termsMany" "I") (by decide +kernel)) (fun _ h9 => h9) rfl dX7_likeRead_4 ?_
      refine lv_icmp_ge (tgt := 74) hx hb dX7_likeRead_7 (by decide) (fun hq => ?_) (fun hq => ?_)
      · replace hf := jx_pos hq hf
        have he := jx_eq hf
        subst he
        have he : Sum.inl _ = k2 := jx_eq hgk2
        subst he
        exact hXk2 _ rfl _ _ _ hP hD hS (lv_sub hl [] rfl)
      · replace hf := jx_neg hq hf
        refine lv_iconst (v := 1) hx hb dX7_likeRead_10 (by decide) ?_
        refine lv_istore_n (lv' := [(3, .int (1 : Int32)), (0, .ref (a 0)), (1, .int p0), (2, .int s1)]) hx hb dX7_likeRead_11 rfl hl (by decide) rfl (fun ls hl => ?_)
        refine lv_iconst (v := 0) hx hb dX7_likeRead_12 (by decide) ?_
        refine lv_istore (lv' := [(4, .int (0 : Int32)), (3, .int (1 : Int32)), (0, .ref (a 0)), (1, .int p0), (2, .int s1)]) hx hb dX7_likeRead_13 hl (by decide) rfl (fun ls hl => ?_)
        obtain ⟨k5, hf, hkk5⟩ := jx_bs hf
        have hXk5 : ∀ (H : Heap) (locs : List Loc) (ls : Array Slot), va_P D vwCl (wM a cI cL nl np nt nr nh ns nk ne nw na nf nc ng nx) H → va_D A (wM a cI cL nl np nt nr nh ns nk ne nw na nf nc ng nx) → va_S A s.heap H locs → lv_has ls 5 [(0, .ref (a 0)), (1, .int p0), (2, .int s1), (3, .int k5)] → jx_Wi p l e wsX7_likeRead ({ frames := 0, cells := 0, slots := 0, locals := 0 }) s m [.ref (a 0), .int p0] below meth c D [(cI, .int), (cL, .long)] res (wM a cI cL nl np nt nr nh ns nk ne nw na nf nc ng nx) A H locs (F0 m 62 ls []) := by
          clear hf hP hD hS hl
          intro H locs ls hP hD hS hl
          have hf := hkk5
          refine lv_iload_n hx hb dX7_likeRead_62 rfl (lv_at hl 3 rfl) ?_
          refine lv_if_eq (tgt := 68) hx hb dX7_likeRead_63 (by decide) (fun hq => ?_) (fun hq => ?_)
          · replace hf := jx_pos hq hf
            refine lv_iinc (v := (s1 + (1 : Int32))) (lv' := [(2, .int (s1 + (1 : Int32))), (0, .ref (a 0)), (1, .int p0), (3, .int k5)]) hx hb dX7_likeRead_68 hl (k := 2) rfl rfl (by decide) rfl (fun ls hl => ?_)
            refine lv_goto (tgt := 2) hx hb dX7_likeRead_71 (by decide) ?_
            have he := jx_eq hf
            subst he
            exact ihk2 (s1 + (1 : Int32)) _ _ _ hgk2 hP hD hS (lv_sub hl [1, 2, 0] rfl)
          · replace hf := jx_neg hq hf
            refine lv_iload_n hx hb dX7_likeRead_66 rfl (lv_at hl 2 rfl) ?_
            have he := jx_eq hf
            subst he
            have he : Sum.inr _ = k2 := jx_eq hgk2
            subst he
            have hf := hkk2
            have he := jx_eq hf
            subst he
            exact jx_reti hx hb hr hlocks rfl hK hP hD hS dX7_likeRead_67
        have hLk5 : ∀ (n : Nat) (s4 : (Int32 × Int32)) (H : Heap) (locs : List Loc) (ls : Array Slot), jx_iter (pf_X7_likeRead_s2 nr p0 s1) n s4 = some k5 → va_P D vwCl (wM a cI cL nl np nt nr nh ns nk ne nw na nf nc ng nx) H → va_D A (wM a cI cL nl np nt nr nh ns nk ne nw na nf nc ng nx) → va_S A s.heap H locs → lv_has ls 5 [(0, .ref (a 0)), (1, .int p0), (2, .int s1), (3, .int s4.1), (4, .int s4.2)] → jx_Wi p l e wsX7_likeRead ({ frames := 0, cells := 0, slots := 0, locals := 0 }) s m [.ref (a 0), .int p0] below meth c D [(cI, .int), (cL, .long)] res (wM a cI cL nl np nt nr nh ns nk ne nw na nf nc ng nx) A H locs (F0 m 15 ls []) := by
          clear hf hP hD hS hl
          intro n
          induction n with
          | zero => intro s4 _ _ _ hf; cases hf
          | succ n ihk5 =>
            intro s4 H locs ls hf hP hD hS hl
            obtain ⟨q6, hf, hgk5⟩ := jx_bs hf
            refine lv_iload hx hb dX7_likeRead_15 (lv_at hl 4 rfl) ?_
            refine lv_bipush (v := 12) hx hb dX7_likeRead_17 (by decide) ?_
            refine lv_icmp_ge (tgt := 62) hx hb dX7_likeRead_19 (by decide) (fun hq => ?_) (fun hq => ?_)
            · replace hf := jx_pos hq hf
              have he := jx_eq hf
              subst he
              have he : _ = k5 := jx_eq hgk5
              subst he
              exact hXk5 _ _ _ hP hD hS (lv_sub hl [0, 1, 2, 3] rfl)
            · replace hf := jx_neg hq hf
              refine lv_iload_n hx hb dX7_likeRead_22 rfl (lv_at hl 3 rfl) ?_
              obtain ⟨j7, hf, hkj7⟩ := jx_bs hf
              have hJj7 : ∀ (H : Heap) (locs : List Loc) (ls : Array Slot), va_P D vwCl (wM a cI cL nl np nt nr nh ns nk ne nw na nf nc ng nx) H → va_D A (wM a cI cL nl np nt nr nh ns nk ne nw na nf nc ng nx) → va_S A s.heap H locs → lv_has ls 5 [(0, .ref (a 0)), (1, .int p0), (2, .int s1), (4, .int s4.2)] → jx_Wi p l e wsX7_likeRead ({ frames := 0, cells := 0, slots := 0, locals := 0 }) s m [.ref (a 0), .int p0] below meth c D [(cI, .int), (cL, .long)] res (wM a cI cL nl np nt nr nh ns nk ne nw na nf nc ng nx) A H locs (F0 m 55 ls [.int j7]) := by
                clear hf hP hD hS hl
                intro H locs ls hP hD hS hl
                have hf := hkj7
                refine lv_istore_n (lv' := [(3, .int j7), (0, .ref (a 0)), (1, .int p0), (2, .int s1), (4, .int s4.2)]) hx hb dX7_likeRead_55 rfl hl (by decide) rfl (fun ls hl => ?_)
                refine lv_iinc (v := (s4.2 + (1 : Int32))) (lv' := [(4, .int (s4.2 + (1 : Int32))), (3, .int j7), (0, .ref (a 0)), (1, .int p0), (2, .int s1)]) hx hb dX7_likeRead_56 hl (k := 4) rfl rfl (by decide) rfl (fun ls hl => ?_)
                refine lv_goto (tgt := 15) hx hb dX7_likeRead_59 (by decide) ?_
                have he := jx_eq hf
                subst he
                exact ihk5 (j7, (s4.2 + (1 : Int32))) _ _ _ hgk5 hP hD hS (lv_sub hl [2, 3, 4, 1, 0] rfl)
              refine lv_if_eq (tgt := 54) hx hb dX7_likeRead_23 (by decide) (fun hq => ?_) (fun hq => ?_)
              · replace hf := jx_pos hq hf
                refine lv_iconst (v := 0) hx hb dX7_likeRead_54 (by decide) ?_
                have he := jx_eq hf
                subst he
                exact hJj7 _ _ _ hP hD hS (lv_sub hl [0, 1, 2, 4] rfl)
              · replace hf := jx_neg hq hf
                refine lv_aload_n hx hb dX7_likeRead_26 rfl (lv_at hl 0 rfl) ?_
                refine va_get (D := D) (ci := 6) (v := .ref (a 2)) (C := RX7) (T := TX7) (N := 14) hx hb hts iw_X7_likeRead_X7 hown hK hP 0 rfl rfl 3 (by decide) (hts (.fieldLink RX7 13 "PassedDutiesModel" "reaches" "[I") (by decide +kernel)) (fun _ h9 => h9) rfl dX7_likeRead_27 ?_
                refine lv_bipush (v := 12) hx hb dX7_likeRead_30 (by decide) ?_
                refine lv_iload_n hx hb dX7_likeRead_32 rfl (lv_at hl 2 rfl) ?_
                refine lv_imul hx hb dX7_likeRead_33 ?_
                refine lv_iload hx hb dX7_likeRead_34 (lv_at hl 4 rfl) ?_
                refine lv_iadd hx hb dX7_likeRead_36 ?_
                obtain ⟨hi, hf⟩ := jx_gs hf
                refine va_iald hx hb hK hP 2 0 rfl rfl (jx_ip hi) dX7_likeRead_37 ?_
                clear hi
                refine lv_aload_n hx hb dX7_likeRead_38 rfl (lv_at hl 0 rfl) ?_
                refine va_get (D := D) (ci := 6) (v := .ref (a 2)) (C := RX7) (T := TX7) (N := 14) hx hb hts iw_X7_likeRead_X7 hown hK hP 0 rfl rfl 3 (by decide) (hts (.fieldLink RX7 13 "PassedDutiesModel" "reaches" "[I") (by decide +kernel)) (fun _ h9 => h9) rfl dX7_likeRead_39 ?_
                refine lv_iload_n hx hb dX7_likeRead_42 rfl (lv_at hl 1 rfl) ?_
                refine lv_iload hx hb dX7_likeRead_43 (lv_at hl 4 rfl) ?_
                refine lv_iadd hx hb dX7_likeRead_45 ?_
                obtain ⟨hi, hf⟩ := jx_gs hf
                refine va_iald hx hb hK hP 2 0 rfl rfl (jx_ip hi) dX7_likeRead_46 ?_
                clear hi
                refine lv_icmp_ne (tgt := 54) hx hb dX7_likeRead_47 (by decide) (fun hq => ?_) (fun hq => ?_)
                · replace hf := jx_pos hq hf
                  refine lv_iconst (v := 0) hx hb dX7_likeRead_54 (by decide) ?_
                  have he := jx_eq hf
                  subst he
                  exact hJj7 _ _ _ hP hD hS (lv_sub hl [0, 1, 2, 4] rfl)
                · replace hf := jx_negn hq hf
                  refine lv_iconst (v := 1) hx hb dX7_likeRead_50 (by decide) ?_
                  refine lv_goto (tgt := 55) hx hb dX7_likeRead_51 (by decide) ?_
                  have he := jx_eq hf
                  subst he
                  exact hJj7 _ _ _ hP hD hS (lv_sub hl [0, 1, 2, 4] rfl)
        exact hLk5 jx_F ((1 : Int32), (0 : Int32)) _ _ _ hf hP hD hS (lv_sub hl [2, 3, 4, 1, 0] rfl)
  exact hLk2 jx_F (0 : Int32) _ _ _ hf hP hD hS (lv_sub hl [1, 2, 0] rfl)
set_option maxHeartbeats 4000000 in
set_option maxRecDepth 100000 in
theorem c_X7_of (l : Launch) (D : va_G) (a : Nat → Nat) (cI cL : ClassId) (nl : Int32) (np : (Nat → Int32)) (nt : Int32) (nr : (Nat → Int32)) (nh : Int32) (ns : (Nat → Int32)) (nk : (Nat → Int32)) (ne : Int32) (nw : Int32) (na : (Nat → Int32)) (nf : (Nat → Int32)) (nc : Int32) (ng : (Nat → Int32)) (nx : Int64) (p0 : Int32) (p1 : Int32) (res : Int32) (hf : pf_X7_of nr nh ns nk p0 p1 = some res) : jMi l yX7_of wsX7_of ({ frames := 5, cells := 0, slots := 0, locals := 120 }) D [(cI, .int), (cL, .long)] [.ref (a 0), .int p0, .int p1] (wM a cI cL nl np nt nr nh ns nk ne nw na nf nc ng nx) res (wM a cI cL nl np nt nr nh ns nk ne nw na nf nc ng nx) := by
  intro sz
  refine Met.ofW (cc := cX7_of) (maxL := 3) (ret := (some .int)) (by decide) rfl ?_
  intro p e s m args below meth c s₁ B hml hv
  obtain ⟨rfl, hsz, hP, hK, hD0, hN⟩ := hv
  have hx := B.exec
  have hb := B.bytes
  have hr := B.returns
  have hts := atoms_spec (ws := wsX7_of) B.pre
  have hown : s.vm.findClass RX7 = some m.cls := findClass_of_methodNamed B.named
  have hlocks := B.notSynchronized
  subst hsz
  have hD := hD0.self (sz := s.heap.size)
  generalize hAe : va_A (wM a cI cL nl np nt nr nh ns nk ne nw na nf nc ng nx) s.heap.size = A at hD ⊢
  have hA : ∀ q : Nat, s.heap.size ≤ q → A q := fun q h => by rw [← hAe]; exact Or.inr h
  have hS : va_S A s.heap s.heap [] := va_S.rf
  have hl := lv_entry ([.ref (a 0), .int p0, .int p1]) (n := 3) (Nat.le_of_ble_eq_true rfl)
  rw [lg_entry_eq]
  generalize (lg_sl ([.ref (a 0), .int p0, .int p1]) ++ List.replicate (3 - (lg_sl ([.ref (a 0), .int p0, .int p1])).length) Slot.unset).toArray = ls at hl ⊢
  have hl : lv_has ls 3 [(0, .ref (a 0)), (1, .int p0), (2, .int p1)] := hl
  have hf : pf_X7_of nr nh ns nk p0 p1 = some res := hf
  refine lv_aload_n hx hb dX7_of_0 rfl (lv_at hl 0 rfl) ?_
  refine lv_iload_n hx hb dX7_of_1 rfl (lv_at hl 1 rfl) ?_
  obtain ⟨r1, hc, hf⟩ := jx_bs hf
  refine jx_ki (wr := []) (ws2 := (wM a cI cL nl np nt nr nh ns nk ne nw na nf nc ng nx)) (jx_runV (As := [.int p0]) (rest := []) ⟨hx, hb, hml, hown, hts⟩ (c_X7_isPart l D a cI cL nl np nt nr nh ns nk ne nw na nf nc ng nx p0 r1 hc _) (cwV 1 hts gX7_of_X7_isPart rfl rfl rfl (by decide +kernel) ⟨Nat.le_of_ble_eq_true rfl, Nat.le_of_ble_eq_true rfl⟩) hK hN hP hD [0, 1, 2, 3, 4, 5, 6, 7] rfl (by decide) 0 6 rfl rfl rfl hl.1 rfl (Nat.le_of_ble_eq_true rfl) dX7_of_2 ⟨Nat.le_of_ble_eq_true rfl, Nat.le_of_ble_eq_true rfl⟩) hP hD hS hA [0, 1, 2, 3, 4, 5, 6, 7] [] [0, 1, 2, 3, 4, 5, 6, 7] rfl rfl (by decide) (by decide) rfl (by decide) (fun H locs hP hD hS => ?_)
  clear hc
  refine lv_if_ne (tgt := 12) hx hb dX7_of_5 (by decide) (fun hq => ?_) (fun hq => ?_)
  · replace hf := jx_pos hq hf
    refine lv_iload_n hx hb dX7_of_12 rfl (lv_at hl 2 rfl) ?_
    refine lv_iconst (v := 0) hx hb dX7_of_13 (by decide) ?_
    refine lv_bipush (v := 6) hx hb dX7_of_14 (by decide) ?_
    obtain ⟨r2, hc, hf⟩ := jx_bs hf
    refine jx_ki (wr := [((a 0), .inr (6, [.int nl, .ref (a 1), .int nt, .ref (a 2), .int nh, .ref (a 3), .ref (a 4), .int ne, .int nw, .ref (a 5), .ref (a 6), .int nc, .ref (a 7), .long nx])), ((a 1), .inl (cI, 24, .inl np)), ((a 2), .inl (cI, 108, .inl nr)), ((a 3), .inl (cI, 8, .inl ns)), ((a 4), .inl (cI, 64, .inl nk)), ((a 5), .inl (cI, 8, .inl na)), ((a 6), .inl (cI, 8, .inl nf)), ((a 7), .inl (cI, 48, .inl ng))]) (ws2 := (wM a cI cL nl np nt nr nh ns nk ne nw na nf nc ng nx)) (jx_runS (As := [.int p1, .int (0 : Int32), .int (6 : Int32)]) (rest := []) ⟨hx, hb, hml, hown, hts⟩ (c_X7_within l D a cI cL p1 (0 : Int32) (6 : Int32) r2 hc _) (va_cwS 3 hts gX7_of_X7_within rfl rfl rfl (by decide +kernel) ⟨Nat.le_of_ble_eq_true rfl, Nat.le_of_ble_eq_true rfl⟩) hK hN hP hD [] rfl (by decide) rfl hl.1 rfl (Nat.le_of_ble_eq_true rfl) dX7_of_16 ⟨Nat.le_of_ble_eq_true rfl, Nat.le_of_ble_eq_true rfl⟩) hP hD hS hA [] [0, 1, 2, 3, 4, 5, 6, 7] [0, 1, 2, 3, 4, 5, 6, 7] rfl rfl (by decide) (by decide) rfl (by decide) (fun H locs hP hD hS => ?_)
    clear hc
    refine lv_if_eq (tgt := 31) hx hb dX7_of_19 (by decide) (fun hq => ?_) (fun hq => ?_)
    · replace hf := jx_pos hq hf
      refine lv_sipush (v := -1002) hx hb dX7_of_31 (by decide) ?_
      have he := jx_eq hf
      subst he
      exact jx_reti hx hb hr hlocks rfl hK hP hD hS dX7_of_34
    · replace hf := jx_neg hq hf
      refine lv_aload_n hx hb dX7_of_22 rfl (lv_at hl 0 rfl) ?_
      refine lv_iload_n hx hb dX7_of_23 rfl (lv_at hl 1 rfl) ?_
      refine lv_iload_n hx hb dX7_of_24 rfl (lv_at hl 2 rfl) ?_
      obtain ⟨r3, hc, hf⟩ := jx_bs hf
      refine jx_ki (wr := []) (ws2 := (wM a cI cL nl np nt nr nh ns nk ne nw na nf nc ng nx)) (jx_runV (As := [.int p0, .int p1]) (rest := []) ⟨hx, hb, hml, hown, hts⟩ (c_X7_partNow l D a cI cL nl np nt nr nh ns nk ne nw na nf nc ng nx p0 p1 r3 hc _) (cwV 2 hts gX7_of_X7_partNow rfl rfl rfl (by decide +kernel) ⟨Nat.le_of_ble_eq_true rfl, Nat.le_of_ble_eq_true rfl⟩) hK hN hP hD [0, 1, 2, 3, 4, 5, 6, 7] rfl (by decide) 0 6 rfl rfl rfl hl.1 rfl (Nat.le_of_ble_eq_true rfl) dX7_of_25 ⟨Nat.le_of_ble_eq_true rfl, Nat.le_of_ble_eq_true rfl⟩) hP hD hS hA [0, 1, 2, 3, 4, 5, 6, 7] [] [0, 1, 2, 3, 4, 5, 6, 7] rfl rfl (by decide) (by decide) rfl (by decide) (fun H locs hP hD hS => ?_)
      clear hc
      refine lv_goto (tgt := 34) hx hb dX7_of_28 (by decide) ?_
      have he := jx_eq hf
      subst he
      exact jx_reti hx hb hr hlocks rfl hK hP hD hS dX7_of_34
  · replace hf := jx_negn hq hf
    refine lv_sipush (v := -1001) hx hb dX7_of_8 (by decide) ?_
    have he := jx_eq hf
    subst he
    exact jx_reti hx hb hr hlocks rfl hK hP hD hS dX7_of_11
theorem iw_X7_part_X7 : ∀ w ∈ wsX70, w ∈ wsX7_part := by decide +kernel
set_option maxHeartbeats 4000000 in
set_option maxRecDepth 100000 in
theorem c_X7_part (l : Launch) (D : va_G) (a : Nat → Nat) (cI cL : ClassId) (nl : Int32) (np : (Nat → Int32)) (nt : Int32) (nr : (Nat → Int32)) (nh : Int32) (ns : (Nat → Int32)) (nk : (Nat → Int32)) (ne : Int32) (nw : Int32) (na : (Nat → Int32)) (nf : (Nat → Int32)) (nc : Int32) (ng : (Nat → Int32)) (nx : Int64) (p0 : Int32) (res : (Int32 × Int32 × (Nat → Int32) × (Nat → Int32))) (hf : pf_X7_part nt nh ns nk p0 = some res) : jMi l yX7_part wsX7_part ({ frames := 2, cells := 0, slots := 0, locals := 43 }) D [(cI, .int), (cL, .long)] [.ref (a 0), .int p0] (wM a cI cL nl np nt nr nh ns nk ne nw na nf nc ng nx) res.1 (wM a cI cL nl np nt nr res.2.1 res.2.2.1 res.2.2.2 ne nw na nf nc ng nx) := by
  intro sz
  refine Met.ofW (cc := cX7_part) (maxL := 4) (ret := (some .int)) (by decide) rfl ?_
  intro p e s m args below meth c s₁ B hml hv
  obtain ⟨rfl, hsz, hP, hK, hD0, hN⟩ := hv
  have hx := B.exec
  have hb := B.bytes
  have hr := B.returns
  have hts := atoms_spec (ws := wsX7_part) B.pre
  have hown : s.vm.findClass RX7 = some m.cls := findClass_of_methodNamed B.named
  have hlocks := B.notSynchronized
  subst hsz
  have hD := hD0.self (sz := s.heap.size)
  generalize hAe : va_A (wM a cI cL nl np nt nr nh ns nk ne nw na nf nc ng nx) s.heap.size = A at hD ⊢
  have hA : ∀ q : Nat, s.heap.size ≤ q → A q := fun q h => by rw [← hAe]; exact Or.inr h
  have hS : va_S A s.heap s.heap [] := va_S.rf
  have hl := lv_entry ([.ref (a 0), .int p0]) (n := 4) (Nat.le_of_ble_eq_true rfl)
  rw [lg_entry_eq]
  generalize (lg_sl ([.ref (a 0), .int p0]) ++ List.replicate (4 - (lg_sl ([.ref (a 0), .int p0])).length) Slot.unset).toArray = ls at hl ⊢
  have hl : lv_has ls 4 [(0, .ref (a 0)), (1, .int p0)] := hl
  have hf : pf_X7_part nt nh ns nk p0 = some res := hf
  refine lv_aload_n hx hb dX7_part_0 rfl (lv_at hl 0 rfl) ?_
  refine lv_iload_n hx hb dX7_part_1 rfl (lv_at hl 1 rfl) ?_
  obtain ⟨r1, hc, hf⟩ := jx_bs hf
  refine jx_ki (wr := []) (ws2 := (wM a cI cL nl np nt nr nh ns nk ne nw na nf nc ng nx)) (jx_runV (As := [.int p0]) (rest := []) ⟨hx, hb, hml, hown, hts⟩ (c_X7_isTerms l D a cI cL nl np nt nr nh ns nk ne nw na nf nc ng nx p0 r1 hc _) (cwV 1 hts gX7_part_X7_isTerms rfl rfl rfl (by decide +kernel) ⟨Nat.le_of_ble_eq_true rfl, Nat.le_of_ble_eq_true rfl⟩) hK hN hP hD [0, 1, 2, 3, 4, 5, 6, 7] rfl (by decide) 0 6 rfl rfl rfl hl.1 rfl (Nat.le_of_ble_eq_true rfl) dX7_part_2 ⟨Nat.le_of_ble_eq_true rfl, Nat.le_of_ble_eq_true rfl⟩) hP hD hS hA [0, 1, 2, 3, 4, 5, 6, 7] [] [0, 1, 2, 3, 4, 5, 6, 7] rfl rfl (by decide) (by decide) rfl (by decide) (fun H locs hP hD hS => ?_)
  clear hc
  refine lv_if_ne (tgt := 12) hx hb dX7_part_5 (by decide) (fun hq => ?_) (fun hq => ?_)
  · replace hf := jx_pos hq hf
    refine lv_aload_n hx hb dX7_part_12 rfl (lv_at hl 0 rfl) ?_
    refine va_get (D := D) (ci := 6) (v := .int nh) (C := RX7) (T := TX7) (N := 14) hx hb hts iw_X7_part_X7 hown hK hP 0 rfl rfl 4 (by decide) (hts (.fieldLink RX7 65 "PassedDutiesModel" "there" "I") (by decide +kernel)) (fun _ h9 => h9) rfl dX7_part_13 ?_
    refine lv_sipush (v := 255) hx hb dX7_part_16 (by decide) ?_
    refine lv_icmp_ne (tgt := 26) hx hb dX7_part_19 (by decide) (fun hq => ?_) (fun hq => ?_)
    · replace hf := jx_pos hq hf
      refine lv_iconst (v := 0) hx hb dX7_part_26 (by decide) ?_
      refine lv_istore_n (lv' := [(2, .int (0 : Int32)), (0, .ref (a 0)), (1, .int p0)]) hx hb dX7_part_27 rfl hl (by decide) rfl (fun ls hl => ?_)
      obtain ⟨k3, hf, hkk3⟩ := jx_bs hf
      have hXk3 : ∀ (H : Heap) (locs : List Loc) (ls : Array Slot), va_P D vwCl (wM a cI cL nl np nt nr nh ns nk ne nw na nf nc ng nx) H → va_D A (wM a cI cL nl np nt nr nh ns nk ne nw na nf nc ng nx) → va_S A s.heap H locs → lv_has ls 4 [(0, .ref (a 0)), (1, .int p0), (2, .int k3)] → jx_Wi p l e wsX7_part ({ frames := 2, cells := 0, slots := 0, locals := 43 }) s m [.ref (a 0), .int p0] below meth c D [(cI, .int), (cL, .long)] (res.1) (wM a cI cL nl np nt nr res.2.1 res.2.2.1 res.2.2.2 ne nw na nf nc ng nx) A H locs (F0 m 45 ls []) := by
        clear hf hP hD hS hl
        intro H locs ls hP hD hS hl
        have hf := hkk3
        refine lv_aload_n hx hb dX7_part_45 rfl (lv_at hl 0 rfl) ?_
        refine lv_dup hx hb dX7_part_46 rfl ?_
        refine va_get (D := D) (ci := 6) (v := .int nh) (C := RX7) (T := TX7) (N := 14) hx hb hts iw_X7_part_X7 hown hK hP 0 rfl rfl 4 (by decide) (hts (.fieldLink RX7 65 "PassedDutiesModel" "there" "I") (by decide +kernel)) (fun _ h9 => h9) rfl dX7_part_47 ?_
        refine lv_iconst (v := 1) hx hb dX7_part_50 (by decide) ?_
        refine lv_iload_n hx hb dX7_part_51 rfl (lv_at hl 2 rfl) ?_
        refine lv_ishl hx hb dX7_part_52 ?_
        refine lv_ior hx hb dX7_part_53 ?_
        refine va_put (D := D) (ci := 6) (v := .int (nh ||| ((1 : Int32) <<< (k3 &&& 31)))) (ty := .int) (C := RX7) (T := TX7) (N := 14) hx hb hts iw_X7_part_X7 tyX7 tyX7_ok nmX7 hown hK hP hD hS 0 rfl rfl 4 (by decide) (hts (.fieldLink RX7 65 "PassedDutiesModel" "there" "I") (by decide +kernel)) (fun _ h9 => h9) rfl (by decide +kernel) rfl rfl (Nat.le_of_ble_eq_true rfl) dX7_part_54 (fun H locs hP hD hS => ?_)
        have hP : va_P D vwCl (wM a cI cL nl np nt nr (nh ||| ((1 : Int32) <<< (k3 &&& 31))) ns nk ne nw na nf nc ng nx) H := hP
        have hD : va_D A (wM a cI cL nl np nt nr (nh ||| ((1 : Int32) <<< (k3 &&& 31))) ns nk ne nw na nf nc ng nx) := hD
        refine lv_aload_n hx hb dX7_part_57 rfl (lv_at hl 0 rfl) ?_
        refine va_get (D := D) (ci := 6) (v := .ref (a 3)) (C := RX7) (T := TX7) (N := 14) hx hb hts iw_X7_part_X7 hown hK hP 0 rfl rfl 5 (by decide) (hts (.fieldLink RX7 16 "PassedDutiesModel" "termsOf" "[I") (by decide +kernel)) (fun _ h9 => h9) rfl dX7_part_58 ?_
        refine lv_iload_n hx hb dX7_part_61 rfl (lv_at hl 2 rfl) ?_
        refine lv_iload_n hx hb dX7_part_62 rfl (lv_at hl 1 rfl) ?_
        obtain ⟨hi, hf⟩ := jx_gs hf
        refine va_iast hx hb hK hP hD hS 3 0 rfl rfl (jx_ip hi) dX7_part_63 (fun H locs hP hD hS => ?_)
        clear hi
        have hP : va_P D vwCl (wM a cI cL nl np nt nr (nh ||| ((1 : Int32) <<< (k3 &&& 31))) (upd ns (k3).toNatClampNeg p0) nk ne nw na nf nc ng nx) H := hP
        have hD : va_D A (wM a cI cL nl np nt nr (nh ||| ((1 : Int32) <<< (k3 &&& 31))) (upd ns (k3).toNatClampNeg p0) nk ne nw na nf nc ng nx) := hD
        refine lv_iconst (v := 0) hx hb dX7_part_64 (by decide) ?_
        refine lv_istore_n (lv' := [(3, .int (0 : Int32)), (0, .ref (a 0)), (1, .int p0), (2, .int k3)]) hx hb dX7_part_65 rfl hl (by decide) rfl (fun ls hl => ?_)
        obtain ⟨k7, hf, hkk7⟩ := jx_bs hf
        have hXk7 : ∀ (H : Heap) (locs : List Loc) (ls : Array Slot), va_P D vwCl (wM a cI cL nl np nt nr (nh ||| ((1 : Int32) <<< (k3 &&& 31))) (upd ns (k3).toNatClampNeg p0) k7 ne nw na nf nc ng nx) H → va_D A (wM a cI cL nl np nt nr (nh ||| ((1 : Int32) <<< (k3 &&& 31))) (upd ns (k3).toNatClampNeg p0) k7 ne nw na nf nc ng nx) → va_S A s.heap H locs → lv_has ls 4 [(2, .int k3)] → jx_Wi p l e wsX7_part ({ frames := 2, cells := 0, slots := 0, locals := 43 }) s m [.ref (a 0), .int p0] below meth c D [(cI, .int), (cL, .long)] (res.1) (wM a cI cL nl np nt nr res.2.1 res.2.2.1 res.2.2.2 ne nw na nf nc ng nx) A H locs (F0 m 102 ls []) := by
          clear hf hP hD hS hl
          intro H locs ls hP hD hS hl
          have hf := hkk7
          refine lv_iload_n hx hb dX7_part_102 rfl (lv_at hl 0 rfl) ?_
          have he := jx_eq hf
          subst he
          exact jx_reti hx hb hr hlocks rfl hK hP hD hS dX7_part_103
        have hLk7 : ∀ (n : Nat) (s6 : (Int32 × (Nat → Int32))) (H : Heap) (locs : List Loc) (ls : Array Slot), jx_iter (pf_X7_part_s2 k3) n s6 = some k7 → va_P D vwCl (wM a cI cL nl np nt nr (nh ||| ((1 : Int32) <<< (k3 &&& 31))) (upd ns (k3).toNatClampNeg p0) s6.2 ne nw na nf nc ng nx) H → va_D A (wM a cI cL nl np nt nr (nh ||| ((1 : Int32) <<< (k3 &&& 31))) (upd ns (k3).toNatClampNeg p0) s6.2 ne nw na nf nc ng nx) → va_S A s.heap H locs → lv_has ls 4 [(0, .ref (a 0)), (2, .int k3), (3, .int s6.1)] → jx_Wi p l e wsX7_part ({ frames := 2, cells := 0, slots := 0, locals := 43 }) s m [.ref (a 0), .int p0] below meth c D [(cI, .int), (cL, .long)] (res.1) (wM a cI cL nl np nt nr res.2.1 res.2.2.1 res.2.2.2 ne nw na nf nc ng nx) A H locs (F0 m 66 ls []) := by
          clear hf hP hD hS hl
          intro n
          induction n with
          | zero => intro s6 _ _ _ hf; cases hf
          | succ n ihk7 =>
            intro s6 H locs ls hf hP hD hS hl
            obtain ⟨q8, hf, hgk7⟩ := jx_bs hf
            refine lv_iload_n hx hb dX7_part_66 rfl (lv_at hl 2 rfl) ?_
            refine lv_bipush (v := 8) hx hb dX7_part_67 (by decide) ?_
            refine lv_icmp_ge (tgt := 102) hx hb dX7_part_69 (by decide) (fun hq => ?_) (fun hq => ?_)
            · replace hf := jx_pos hq hf
              have he := jx_eq hf
              subst he
              have he : _ = k7 := jx_eq hgk7
              subst he
              exact hXk7 _ _ _ hP hD hS (lv_sub hl [1] rfl)
            · replace hf := jx_neg hq hf
              refine lv_aload_n hx hb dX7_part_72 rfl (lv_at hl 0 rfl) ?_
              refine va_get (D := D) (ci := 6) (v := .ref (a 4)) (C := RX7) (T := TX7) (N := 14) hx hb hts iw_X7_part_X7 hown hK hP 0 rfl rfl 6 (by decide) (hts (.fieldLink RX7 19 "PassedDutiesModel" "kinds" "[I") (by decide +kernel)) (fun _ h9 => h9) rfl dX7_part_73 ?_
              refine lv_bipush (v := 8) hx hb dX7_part_76 (by decide) ?_
              refine lv_iload_n hx hb dX7_part_78 rfl (lv_at hl 1 rfl) ?_
              refine lv_imul hx hb dX7_part_79 ?_
              refine lv_iload_n hx hb dX7_part_80 rfl (lv_at hl 2 rfl) ?_
              refine lv_iadd hx hb dX7_part_81 ?_
              refine lv_iconst (v := -1) hx hb dX7_part_82 (by decide) ?_
              obtain ⟨hi, hf⟩ := jx_gs hf
              refine va_iast hx hb hK hP hD hS 4 0 rfl rfl (jx_ip hi) dX7_part_83 (fun H locs hP hD hS => ?_)
              clear hi
              have hP : va_P D vwCl (wM a cI cL nl np nt nr (nh ||| ((1 : Int32) <<< (k3 &&& 31))) (upd ns (k3).toNatClampNeg p0) (upd s6.2 ((((8 : Int32) * k3) + s6.1)).toNatClampNeg (-1 : Int32)) ne nw na nf nc ng nx) H := hP
              have hD : va_D A (wM a cI cL nl np nt nr (nh ||| ((1 : Int32) <<< (k3 &&& 31))) (upd ns (k3).toNatClampNeg p0) (upd s6.2 ((((8 : Int32) * k3) + s6.1)).toNatClampNeg (-1 : Int32)) ne nw na nf nc ng nx) := hD
              refine lv_aload_n hx hb dX7_part_84 rfl (lv_at hl 0 rfl) ?_
              refine va_get (D := D) (ci := 6) (v := .ref (a 4)) (C := RX7) (T := TX7) (N := 14) hx hb hts iw_X7_part_X7 hown hK hP 0 rfl rfl 6 (by decide) (hts (.fieldLink RX7 19 "PassedDutiesModel" "kinds" "[I") (by decide +kernel)) (fun _ h9 => h9) rfl dX7_part_85 ?_
              refine lv_bipush (v := 8) hx hb dX7_part_88 (by decide) ?_
              refine lv_iload_n hx hb dX7_part_90 rfl (lv_at hl 2 rfl) ?_
              refine lv_imul hx hb dX7_part_91 ?_
              refine lv_iload_n hx hb dX7_part_92 rfl (lv_at hl 1 rfl) ?_
              refine lv_iadd hx hb dX7_part_93 ?_
              refine lv_iconst (v := -1) hx hb dX7_part_94 (by decide) ?_
              obtain ⟨hi, hf⟩ := jx_gs hf
              refine va_iast hx hb hK hP hD hS 4 0 rfl rfl (jx_ip hi) dX7_part_95 (fun H locs hP hD hS => ?_)
              clear hi
              have hP : va_P D vwCl (wM a cI cL nl np nt nr (nh ||| ((1 : Int32) <<< (k3 &&& 31))) (upd ns (k3).toNatClampNeg p0) (upd (upd s6.2 ((((8 : Int32) * k3) + s6.1)).toNatClampNeg (-1 : Int32)) ((((8 : Int32) * s6.1) + k3)).toNatClampNeg (-1 : Int32)) ne nw na nf nc ng nx) H := hP
              have hD : va_D A (wM a cI cL nl np nt nr (nh ||| ((1 : Int32) <<< (k3 &&& 31))) (upd ns (k3).toNatClampNeg p0) (upd (upd s6.2 ((((8 : Int32) * k3) + s6.1)).toNatClampNeg (-1 : Int32)) ((((8 : Int32) * s6.1) + k3)).toNatClampNeg (-1 : Int32)) ne nw na nf nc ng nx) := hD
              refine lv_iinc (v := (s6.1 + (1 : Int32))) (lv' := [(3, .int (s6.1 + (1 : Int32))), (0, .ref (a 0)), (2, .int k3)]) hx hb dX7_part_96 hl (k := 2) rfl rfl (by decide) rfl (fun ls hl => ?_)
              refine lv_goto (tgt := 66) hx hb dX7_part_99 (by decide) ?_
              have he := jx_eq hf
              subst he
              exact ihk7 ((s6.1 + (1 : Int32)), (upd (upd s6.2 ((((8 : Int32) * k3) + s6.1)).toNatClampNeg (-1 : Int32)) ((((8 : Int32) * s6.1) + k3)).toNatClampNeg (-1 : Int32))) _ _ _ hgk7 hP hD hS (lv_sub hl [1, 2, 0] rfl)
        exact hLk7 jx_F ((0 : Int32), nk) _ _ _ hf hP hD hS (lv_sub hl [1, 3, 0] rfl)
      have hLk3 : ∀ (n : Nat) (s2 : Int32) (H : Heap) (locs : List Loc) (ls : Array Slot), jx_iter (pf_X7_part_s1 nh) n s2 = some k3 → va_P D vwCl (wM a cI cL nl np nt nr nh ns nk ne nw na nf nc ng nx) H → va_D A (wM a cI cL nl np nt nr nh ns nk ne nw na nf nc ng nx) → va_S A s.heap H locs → lv_has ls 4 [(0, .ref (a 0)), (1, .int p0), (2, .int s2)] → jx_Wi p l e wsX7_part ({ frames := 2, cells := 0, slots := 0, locals := 43 }) s m [.ref (a 0), .int p0] below meth c D [(cI, .int), (cL, .long)] (res.1) (wM a cI cL nl np nt nr res.2.1 res.2.2.1 res.2.2.2 ne nw na nf nc ng nx) A H locs (F0 m 28 ls []) := by
        clear hf hP hD hS hl
        intro n
        induction n with
        | zero => intro s2 _ _ _ hf; cases hf
        | succ n ihk3 =>
          intro s2 H locs ls hf hP hD hS hl
          obtain ⟨q4, hf, hgk3⟩ := jx_bs hf
          refine lv_aload_n hx hb dX7_part_28 rfl (lv_at hl 0 rfl) ?_
          refine va_get (D := D) (ci := 6) (v := .int nh) (C := RX7) (T := TX7) (N := 14) hx hb hts iw_X7_part_X7 hown hK hP 0 rfl rfl 4 (by decide) (hts (.fieldLink RX7 65 "PassedDutiesModel" "there" "I") (by decide +kernel)) (fun _ h9 => h9) rfl dX7_part_29 ?_
          refine lv_iload_n hx hb dX7_part_32 rfl (lv_at hl 2 rfl) ?_
          obtain ⟨r5, hc, hf⟩ := jx_bs hf
          refine jx_ki (wr := [((a 0), .inr (6, [.int nl, .ref (a 1), .int nt, .ref (a 2), .int nh, .ref (a 3), .ref (a 4), .int ne, .int nw, .ref (a 5), .ref (a 6), .int nc, .ref (a 7), .long nx])), ((a 1), .inl (cI, 24, .inl np)), ((a 2), .inl (cI, 108, .inl nr)), ((a 3), .inl (cI, 8, .inl ns)), ((a 4), .inl (cI, 64, .inl nk)), ((a 5), .inl (cI, 8, .inl na)), ((a 6), .inl (cI, 8, .inl nf)), ((a 7), .inl (cI, 48, .inl ng))]) (ws2 := (wM a cI cL nl np nt nr nh ns nk ne nw na nf nc ng nx)) (jx_runS (As := [.int nh, .int s2]) (rest := []) ⟨hx, hb, hml, hown, hts⟩ (c_X7_has l D a cI cL nh s2 r5 hc _) (va_cwS 2 hts gX7_part_X7_has rfl rfl rfl (by decide +kernel) ⟨Nat.le_of_ble_eq_true rfl, Nat.le_of_ble_eq_true rfl⟩) hK hN hP hD [] rfl (by decide) rfl hl.1 rfl (Nat.le_of_ble_eq_true rfl) dX7_part_33 ⟨Nat.le_of_ble_eq_true rfl, Nat.le_of_ble_eq_true rfl⟩) hP hD hS hA [] [0, 1, 2, 3, 4, 5, 6, 7] [0, 1, 2, 3, 4, 5, 6, 7] rfl rfl (by decide) (by decide) rfl (by decide) (fun H locs hP hD hS => ?_)
          clear hc
          refine lv_if_eq (tgt := 45) hx hb dX7_part_36 (by decide) (fun hq => ?_) (fun hq => ?_)
          · replace hf := jx_pos hq hf
            have he := jx_eq hf
            subst he
            have he : _ = k3 := jx_eq hgk3
            subst he
            exact hXk3 _ _ _ hP hD hS (lv_sub hl [0, 1, 2] rfl)
          · replace hf := jx_neg hq hf
            refine lv_iinc (v := (s2 + (1 : Int32))) (lv' := [(2, .int (s2 + (1 : Int32))), (0, .ref (a 0)), (1, .int p0)]) hx hb dX7_part_39 hl (k := 2) rfl rfl (by decide) rfl (fun ls hl => ?_)
            refine lv_goto (tgt := 28) hx hb dX7_part_42 (by decide) ?_
            have he := jx_eq hf
            subst he
            exact ihk3 (s2 + (1 : Int32)) _ _ _ hgk3 hP hD hS (lv_sub hl [1, 2, 0] rfl)
      exact hLk3 jx_F (0 : Int32) _ _ _ hf hP hD hS (lv_sub hl [1, 2, 0] rfl)
    · replace hf := jx_negn hq hf
      refine lv_sipush (v := -1004) hx hb dX7_part_22 (by decide) ?_
      have he := jx_eq hf
      subst he
      exact jx_reti hx hb hr hlocks rfl hK hP hD hS dX7_part_25
  · replace hf := jx_negn hq hf
    refine lv_sipush (v := -1001) hx hb dX7_part_8 (by decide) ?_
    have he := jx_eq hf
    subst he
    exact jx_reti hx hb hr hlocks rfl hK hP hD hS dX7_part_11
theorem iw_X7_puts_X7 : ∀ w ∈ wsX70, w ∈ wsX7_puts := by decide +kernel
set_option maxHeartbeats 4000000 in
set_option maxRecDepth 100000 in
theorem c_X7_puts (l : Launch) (D : va_G) (a : Nat → Nat) (cI cL : ClassId) (nl : Int32) (np : (Nat → Int32)) (nt : Int32) (nr : (Nat → Int32)) (nh : Int32) (ns : (Nat → Int32)) (nk : (Nat → Int32)) (ne : Int32) (nw : Int32) (na : (Nat → Int32)) (nf : (Nat → Int32)) (nc : Int32) (ng : (Nat → Int32)) (nx : Int64) (p0 : Int32) (p1 : Int32) (p2 : Int32) (res : (Int32 × (Nat → Int32))) (hf : pf_X7_puts nt nr p0 p1 p2 = some res) : jMi l yX7_puts wsX7_puts ({ frames := 1, cells := 0, slots := 0, locals := 24 }) D [(cI, .int), (cL, .long)] [.ref (a 0), .int p0, .int p1, .int p2] (wM a cI cL nl np nt nr nh ns nk ne nw na nf nc ng nx) res.1 (wM a cI cL nl np nt res.2 nh ns nk ne nw na nf nc ng nx) := by
  intro sz
  refine Met.ofW (cc := cX7_puts) (maxL := 7) (ret := (some .int)) (by decide) rfl ?_
  intro p e s m args below meth c s₁ B hml hv
  obtain ⟨rfl, hsz, hP, hK, hD0, hN⟩ := hv
  have hx := B.exec
  have hb := B.bytes
  have hr := B.returns
  have hts := atoms_spec (ws := wsX7_puts) B.pre
  have hown : s.vm.findClass RX7 = some m.cls := findClass_of_methodNamed B.named
  have hlocks := B.notSynchronized
  subst hsz
  have hD := hD0.self (sz := s.heap.size)
  generalize hAe : va_A (wM a cI cL nl np nt nr nh ns nk ne nw na nf nc ng nx) s.heap.size = A at hD ⊢
  have hA : ∀ q : Nat, s.heap.size ≤ q → A q := fun q h => by rw [← hAe]; exact Or.inr h
  have hS : va_S A s.heap s.heap [] := va_S.rf
  have hl := lv_entry ([.ref (a 0), .int p0, .int p1, .int p2]) (n := 7) (Nat.le_of_ble_eq_true rfl)
  rw [lg_entry_eq]
  generalize (lg_sl ([.ref (a 0), .int p0, .int p1, .int p2]) ++ List.replicate (7 - (lg_sl ([.ref (a 0), .int p0, .int p1, .int p2])).length) Slot.unset).toArray = ls at hl ⊢
  have hl : lv_has ls 7 [(0, .ref (a 0)), (1, .int p0), (2, .int p1), (3, .int p2)] := hl
  have hf : pf_X7_puts nt nr p0 p1 p2 = some res := hf
  refine lv_iconst (v := 0) hx hb dX7_puts_0 (by decide) ?_
  refine lv_istore (lv' := [(4, .int (0 : Int32)), (0, .ref (a 0)), (1, .int p0), (2, .int p1), (3, .int p2)]) hx hb dX7_puts_1 hl (by decide) rfl (fun ls hl => ?_)
  obtain ⟨k2, hf, hkk2⟩ := jx_bs hf
  have hXk2 : ∀ (H : Heap) (locs : List Loc) (ls : Array Slot), va_P D vwCl (wM a cI cL nl np nt k2 nh ns nk ne nw na nf nc ng nx) H → va_D A (wM a cI cL nl np nt k2 nh ns nk ne nw na nf nc ng nx) → va_S A s.heap H locs → lv_has ls 7 [(0, .ref (a 0))] → jx_Wi p l e wsX7_puts ({ frames := 1, cells := 0, slots := 0, locals := 24 }) s m [.ref (a 0), .int p0, .int p1, .int p2] below meth c D [(cI, .int), (cL, .long)] (res.1) (wM a cI cL nl np nt res.2 nh ns nk ne nw na nf nc ng nx) A H locs (F0 m 77 ls []) := by
    clear hf hP hD hS hl
    intro H locs ls hP hD hS hl
    have hf := hkk2
    refine lv_aload_n hx hb dX7_puts_77 rfl (lv_at hl 0 rfl) ?_
    refine lv_bipush (v := 96) hx hb dX7_puts_78 (by decide) ?_
    obtain ⟨r6, hc, hf⟩ := jx_bs hf
    refine jx_ki (wr := []) (ws2 := (wM a cI cL nl np nt k2 nh ns nk ne nw na nf nc ng nx)) (jx_runV (As := [.int (96 : Int32)]) (rest := []) ⟨hx, hb, hml, hown, hts⟩ (c_X7_likeRead l D a cI cL nl np nt k2 nh ns nk ne nw na nf nc ng nx (96 : Int32) r6 hc _) (cwV 1 hts gX7_puts_X7_likeRead rfl rfl rfl (by decide +kernel) ⟨Nat.le_of_ble_eq_true rfl, Nat.le_of_ble_eq_true rfl⟩) hK hN hP hD [0, 1, 2, 3, 4, 5, 6, 7] rfl (by decide) 0 6 rfl rfl rfl hl.1 rfl (Nat.le_of_ble_eq_true rfl) dX7_puts_80 ⟨Nat.le_of_ble_eq_true rfl, Nat.le_of_ble_eq_true rfl⟩) hP hD hS hA [0, 1, 2, 3, 4, 5, 6, 7] [] [0, 1, 2, 3, 4, 5, 6, 7] rfl rfl (by decide) (by decide) rfl (by decide) (fun H locs hP hD hS => ?_)
    clear hc
    have he := jx_eq hf
    subst he
    exact jx_reti hx hb hr hlocks rfl hK hP hD hS dX7_puts_83
  have hLk2 : ∀ (n : Nat) (s1 : (Int32 × (Nat → Int32))) (H : Heap) (locs : List Loc) (ls : Array Slot), jx_iter (pf_X7_puts_s1 p0 p1 p2) n s1 = some k2 → va_P D vwCl (wM a cI cL nl np nt s1.2 nh ns nk ne nw na nf nc ng nx) H → va_D A (wM a cI cL nl np nt s1.2 nh ns nk ne nw na nf nc ng nx) → va_S A s.heap H locs → lv_has ls 7 [(0, .ref (a 0)), (1, .int p0), (2, .int p1), (3, .int p2), (4, .int s1.1)] → jx_Wi p l e wsX7_puts ({ frames := 1, cells := 0, slots := 0, locals := 24 }) s m [.ref (a 0), .int p0, .int p1, .int p2] below meth c D [(cI, .int), (cL, .long)] (res.1) (wM a cI cL nl np nt res.2 nh ns nk ne nw na nf nc ng nx) A H locs (F0 m 3 ls []) := by
    clear hf hP hD hS hl
    intro n
    induction n with
    | zero => intro s1 _ _ _ hf; cases hf
    | succ n ihk2 =>
      intro s1 H locs ls hf hP hD hS hl
      obtain ⟨q3, hf, hgk2⟩ := jx_bs hf
      refine lv_iload hx hb dX7_puts_3 (lv_at hl 4 rfl) ?_
      refine lv_bipush (v := 12) hx hb dX7_puts_5 (by decide) ?_
      refine lv_icmp_ge (tgt := 77) hx hb dX7_puts_7 (by decide) (fun hq => ?_) (fun hq => ?_)
      · replace hf := jx_pos hq hf
        have he := jx_eq hf
        subst he
        have he : _ = k2 := jx_eq hgk2
        subst he
        exact hXk2 _ _ _ hP hD hS (lv_sub hl [0] rfl)
      · replace hf := jx_neg hq hf
        refine lv_aload_n hx hb dX7_puts_10 rfl (lv_at hl 0 rfl) ?_
        refine va_get (D := D) (ci := 6) (v := .ref (a 2)) (C := RX7) (T := TX7) (N := 14) hx hb hts iw_X7_puts_X7 hown hK hP 0 rfl rfl 3 (by decide) (hts (.fieldLink RX7 13 "PassedDutiesModel" "reaches" "[I") (by decide +kernel)) (fun _ h9 => h9) rfl dX7_puts_11 ?_
        refine lv_bipush (v := 12) hx hb dX7_puts_14 (by decide) ?_
        refine lv_iload_n hx hb dX7_puts_16 rfl (lv_at hl 1 rfl) ?_
        refine lv_imul hx hb dX7_puts_17 ?_
        refine lv_iload hx hb dX7_puts_18 (lv_at hl 4 rfl) ?_
        refine lv_iadd hx hb dX7_puts_20 ?_
        obtain ⟨hi, hf⟩ := jx_gs hf
        refine va_iald hx hb hK hP 2 0 rfl rfl (jx_ip hi) dX7_puts_21 ?_
        clear hi
        refine lv_istore (lv' := [(5, .int (s1.2 ((((12 : Int32) * p0) + s1.1)).toNatClampNeg)), (0, .ref (a 0)), (1, .int p0), (2, .int p1), (3, .int p2), (4, .int s1.1)]) hx hb dX7_puts_22 hl (by decide) rfl (fun ls hl => ?_)
        refine lv_aload_n hx hb dX7_puts_24 rfl (lv_at hl 1 rfl) ?_
        refine va_get (D := D) (ci := 6) (v := .ref (a 2)) (C := RX7) (T := TX7) (N := 14) hx hb hts iw_X7_puts_X7 hown hK hP 0 rfl rfl 3 (by decide) (hts (.fieldLink RX7 13 "PassedDutiesModel" "reaches" "[I") (by decide +kernel)) (fun _ h9 => h9) rfl dX7_puts_25 ?_
        refine lv_bipush (v := 12) hx hb dX7_puts_28 (by decide) ?_
        refine lv_iload_n hx hb dX7_puts_30 rfl (lv_at hl 3 rfl) ?_
        refine lv_imul hx hb dX7_puts_31 ?_
        refine lv_iload hx hb dX7_puts_32 (lv_at hl 5 rfl) ?_
        refine lv_iadd hx hb dX7_puts_34 ?_
        obtain ⟨hi, hf⟩ := jx_gs hf
        refine va_iald hx hb hK hP 2 0 rfl rfl (jx_ip hi) dX7_puts_35 ?_
        clear hi
        refine lv_istore (lv' := [(6, .int (s1.2 ((((12 : Int32) * p1) + s1.1)).toNatClampNeg)), (5, .int (s1.2 ((((12 : Int32) * p0) + s1.1)).toNatClampNeg)), (0, .ref (a 0)), (1, .int p0), (2, .int p1), (3, .int p2), (4, .int s1.1)]) hx hb dX7_puts_36 hl (by decide) rfl (fun ls hl => ?_)
        refine lv_aload_n hx hb dX7_puts_38 rfl (lv_at hl 2 rfl) ?_
        refine va_get (D := D) (ci := 6) (v := .ref (a 2)) (C := RX7) (T := TX7) (N := 14) hx hb hts iw_X7_puts_X7 hown hK hP 0 rfl rfl 3 (by decide) (hts (.fieldLink RX7 13 "PassedDutiesModel" "reaches" "[I") (by decide +kernel)) (fun _ h9 => h9) rfl dX7_puts_39 ?_
        refine lv_bipush (v := 96) hx hb dX7_puts_42 (by decide) ?_
        refine lv_iload hx hb dX7_puts_44 (lv_at hl 6 rfl) ?_
        refine lv_iadd hx hb dX7_puts_46 ?_
        refine lv_iload hx hb dX7_puts_47 (lv_at hl 1 rfl) ?_
        refine lv_iload hx hb dX7_puts_49 (lv_at hl 0 rfl) ?_
        obtain ⟨j4, hf, hkj4⟩ := jx_bs hf
        have hJj4 : ∀ (H : Heap) (locs : List Loc) (ls : Array Slot), va_P D vwCl (wM a cI cL nl np nt s1.2 nh ns nk ne nw na nf nc ng nx) H → va_D A (wM a cI cL nl np nt s1.2 nh ns nk ne nw na nf nc ng nx) → va_S A s.heap H locs → lv_has ls 7 [(0, .ref (a 0)), (1, .int p0), (2, .int p1), (3, .int p2), (4, .int s1.1), (5, .int (s1.2 ((((12 : Int32) * p0) + s1.1)).toNatClampNeg)), (6, .int (s1.2 ((((12 : Int32) * p1) + s1.1)).toNatClampNeg))] → jx_Wi p l e wsX7_puts ({ frames := 1, cells := 0, slots := 0, locals := 24 }) s m [.ref (a 0), .int p0, .int p1, .int p2] below meth c D [(cI, .int), (cL, .long)] (res.1) (wM a cI cL nl np nt res.2 nh ns nk ne nw na nf nc ng nx) A H locs (F0 m 59 ls [.int j4, .int ((96 : Int32) + s1.1), .ref (a 2)]) := by
          clear hf hP hD hS hl
          intro H locs ls hP hD hS hl
          have hf := hkj4
          refine lv_iload_n hx hb dX7_puts_59 rfl (lv_at hl 3 rfl) ?_
          obtain ⟨j5, hf, hkj5⟩ := jx_bs hf
          have hJj5 : ∀ (H : Heap) (locs : List Loc) (ls : Array Slot), va_P D vwCl (wM a cI cL nl np nt s1.2 nh ns nk ne nw na nf nc ng nx) H → va_D A (wM a cI cL nl np nt s1.2 nh ns nk ne nw na nf nc ng nx) → va_S A s.heap H locs → lv_has ls 7 [(0, .ref (a 0)), (1, .int p0), (2, .int p1), (3, .int p2), (4, .int s1.1)] → jx_Wi p l e wsX7_puts ({ frames := 1, cells := 0, slots := 0, locals := 24 }) s m [.ref (a 0), .int p0, .int p1, .int p2] below meth c D [(cI, .int), (cL, .long)] (res.1) (wM a cI cL nl np nt res.2 nh ns nk ne nw na nf nc ng nx) A H locs (F0 m 70 ls [.int j5, .int ((96 : Int32) + s1.1), .ref (a 2)]) := by
            clear hf hP hD hS hl
            intro H locs ls hP hD hS hl
            have hf := hkj5
            obtain ⟨hi, hf⟩ := jx_gs hf
            refine va_iast hx hb hK hP hD hS 2 0 rfl rfl (jx_ip hi) dX7_puts_70 (fun H locs hP hD hS => ?_)
            clear hi
            have hP : va_P D vwCl (wM a cI cL nl np nt (upd s1.2 (((96 : Int32) + s1.1)).toNatClampNeg j5) nh ns nk ne nw na nf nc ng nx) H := hP
            have hD : va_D A (wM a cI cL nl np nt (upd s1.2 (((96 : Int32) + s1.1)).toNatClampNeg j5) nh ns nk ne nw na nf nc ng nx) := hD
            refine lv_iinc (v := (s1.1 + (1 : Int32))) (lv' := [(4, .int (s1.1 + (1 : Int32))), (0, .ref (a 0)), (1, .int p0), (2, .int p1), (3, .int p2)]) hx hb dX7_puts_71 hl (k := 4) rfl rfl (by decide) rfl (fun ls hl => ?_)
            refine lv_goto (tgt := 3) hx hb dX7_puts_74 (by decide) ?_
            have he := jx_eq hf
            subst he
            exact ihk2 ((s1.1 + (1 : Int32)), (upd s1.2 (((96 : Int32) + s1.1)).toNatClampNeg j5)) _ _ _ hgk2 hP hD hS (lv_sub hl [1, 2, 3, 4, 0] rfl)
          refine lv_icmp_ne (tgt := 68) hx hb dX7_puts_60 (by decide) (fun hq => ?_) (fun hq => ?_)
          · replace hf := jx_pos hq hf
            refine lv_iload hx hb dX7_puts_68 (lv_at hl 6 rfl) ?_
            have he := jx_eq hf
            subst he
            exact hJj5 _ _ _ hP hD hS (lv_sub hl [0, 1, 2, 3, 4] rfl)
          · replace hf := jx_negn hq hf
            refine lv_iload hx hb dX7_puts_63 (lv_at hl 5 rfl) ?_
            refine lv_goto (tgt := 70) hx hb dX7_puts_65 (by decide) ?_
            have he := jx_eq hf
            subst he
            exact hJj5 _ _ _ hP hD hS (lv_sub hl [0, 1, 2, 3, 4] rfl)
        refine lv_icmp_le (tgt := 58) hx hb dX7_puts_51 (by decide) (fun hq => ?_) (fun hq => ?_)
        · replace hf := jx_pos hq hf
          refine lv_iconst (v := 0) hx hb dX7_puts_58 (by decide) ?_
          have he := jx_eq hf
          subst he
          exact hJj4 _ _ _ hP hD hS (lv_sub hl [2, 3, 4, 5, 6, 1, 0] rfl)
        · replace hf := jx_neg hq hf
          refine lv_iconst (v := 1) hx hb dX7_puts_54 (by decide) ?_
          refine lv_goto (tgt := 59) hx hb dX7_puts_55 (by decide) ?_
          have he := jx_eq hf
          subst he
          exact hJj4 _ _ _ hP hD hS (lv_sub hl [2, 3, 4, 5, 6, 1, 0] rfl)
  exact hLk2 jx_F ((0 : Int32), nr) _ _ _ hf hP hD hS (lv_sub hl [1, 2, 3, 4, 0] rfl)
theorem iw_X7_reach_X7 : ∀ w ∈ wsX70, w ∈ wsX7_reach := by decide +kernel
set_option maxHeartbeats 4000000 in
set_option maxRecDepth 100000 in
theorem c_X7_reach (l : Launch) (D : va_G) (a : Nat → Nat) (cI cL : ClassId) (nl : Int32) (np : (Nat → Int32)) (nt : Int32) (nr : (Nat → Int32)) (nh : Int32) (ns : (Nat → Int32)) (nk : (Nat → Int32)) (ne : Int32) (nw : Int32) (na : (Nat → Int32)) (nf : (Nat → Int32)) (nc : Int32) (ng : (Nat → Int32)) (nx : Int64) (p0 : Int32) (p1 : Int32) (res : Int32) (hf : pf_X7_reach nt nr p0 p1 = some res) : jMi l yX7_reach wsX7_reach ({ frames := 2, cells := 0, slots := 0, locals := 43 }) D [(cI, .int), (cL, .long)] [.ref (a 0), .int p0, .int p1] (wM a cI cL nl np nt nr nh ns nk ne nw na nf nc ng nx) res (wM a cI cL nl np nt nr nh ns nk ne nw na nf nc ng nx) := by
  intro sz
  refine Met.ofW (cc := cX7_reach) (maxL := 3) (ret := (some .int)) (by decide) rfl ?_
  intro p e s m args below meth c s₁ B hml hv
  obtain ⟨rfl, hsz, hP, hK, hD0, hN⟩ := hv
  have hx := B.exec
  have hb := B.bytes
  have hr := B.returns
  have hts := atoms_spec (ws := wsX7_reach) B.pre
  have hown : s.vm.findClass RX7 = some m.cls := findClass_of_methodNamed B.named
  have hlocks := B.notSynchronized
  subst hsz
  have hD := hD0.self (sz := s.heap.size)
  generalize hAe : va_A (wM a cI cL nl np nt nr nh ns nk ne nw na nf nc ng nx) s.heap.size = A at hD ⊢
  have hA : ∀ q : Nat, s.heap.size ≤ q → A q := fun q h => by rw [← hAe]; exact Or.inr h
  have hS : va_S A s.heap s.heap [] := va_S.rf
  have hl := lv_entry ([.ref (a 0), .int p0, .int p1]) (n := 3) (Nat.le_of_ble_eq_true rfl)
  rw [lg_entry_eq]
  generalize (lg_sl ([.ref (a 0), .int p0, .int p1]) ++ List.replicate (3 - (lg_sl ([.ref (a 0), .int p0, .int p1])).length) Slot.unset).toArray = ls at hl ⊢
  have hl : lv_has ls 3 [(0, .ref (a 0)), (1, .int p0), (2, .int p1)] := hl
  have hf : pf_X7_reach nt nr p0 p1 = some res := hf
  refine lv_aload_n hx hb dX7_reach_0 rfl (lv_at hl 0 rfl) ?_
  refine lv_iload_n hx hb dX7_reach_1 rfl (lv_at hl 1 rfl) ?_
  obtain ⟨r1, hc, hf⟩ := jx_bs hf
  refine jx_ki (wr := []) (ws2 := (wM a cI cL nl np nt nr nh ns nk ne nw na nf nc ng nx)) (jx_runV (As := [.int p0]) (rest := []) ⟨hx, hb, hml, hown, hts⟩ (c_X7_isTerms l D a cI cL nl np nt nr nh ns nk ne nw na nf nc ng nx p0 r1 hc _) (cwV 1 hts gX7_reach_X7_isTerms rfl rfl rfl (by decide +kernel) ⟨Nat.le_of_ble_eq_true rfl, Nat.le_of_ble_eq_true rfl⟩) hK hN hP hD [0, 1, 2, 3, 4, 5, 6, 7] rfl (by decide) 0 6 rfl rfl rfl hl.1 rfl (Nat.le_of_ble_eq_true rfl) dX7_reach_2 ⟨Nat.le_of_ble_eq_true rfl, Nat.le_of_ble_eq_true rfl⟩) hP hD hS hA [0, 1, 2, 3, 4, 5, 6, 7] [] [0, 1, 2, 3, 4, 5, 6, 7] rfl rfl (by decide) (by decide) rfl (by decide) (fun H locs hP hD hS => ?_)
  clear hc
  refine lv_if_ne (tgt := 12) hx hb dX7_reach_5 (by decide) (fun hq => ?_) (fun hq => ?_)
  · replace hf := jx_pos hq hf
    refine lv_iload_n hx hb dX7_reach_12 rfl (lv_at hl 2 rfl) ?_
    refine lv_iconst (v := 0) hx hb dX7_reach_13 (by decide) ?_
    refine lv_bipush (v := 11) hx hb dX7_reach_14 (by decide) ?_
    obtain ⟨r2, hc, hf⟩ := jx_bs hf
    refine jx_ki (wr := [((a 0), .inr (6, [.int nl, .ref (a 1), .int nt, .ref (a 2), .int nh, .ref (a 3), .ref (a 4), .int ne, .int nw, .ref (a 5), .ref (a 6), .int nc, .ref (a 7), .long nx])), ((a 1), .inl (cI, 24, .inl np)), ((a 2), .inl (cI, 108, .inl nr)), ((a 3), .inl (cI, 8, .inl ns)), ((a 4), .inl (cI, 64, .inl nk)), ((a 5), .inl (cI, 8, .inl na)), ((a 6), .inl (cI, 8, .inl nf)), ((a 7), .inl (cI, 48, .inl ng))]) (ws2 := (wM a cI cL nl np nt nr nh ns nk ne nw na nf nc ng nx)) (jx_runS (As := [.int p1, .int (0 : Int32), .int (11 : Int32)]) (rest := []) ⟨hx, hb, hml, hown, hts⟩ (c_X7_within l D a cI cL p1 (0 : Int32) (11 : Int32) r2 hc _) (va_cwS 3 hts gX7_reach_X7_within rfl rfl rfl (by decide +kernel) ⟨Nat.le_of_ble_eq_true rfl, Nat.le_of_ble_eq_true rfl⟩) hK hN hP hD [] rfl (by decide) rfl hl.1 rfl (Nat.le_of_ble_eq_true rfl) dX7_reach_16 ⟨Nat.le_of_ble_eq_true rfl, Nat.le_of_ble_eq_true rfl⟩) hP hD hS hA [] [0, 1, 2, 3, 4, 5, 6, 7] [0, 1, 2, 3, 4, 5, 6, 7] rfl rfl (by decide) (by decide) rfl (by decide) (fun H locs hP hD hS => ?_)
    clear hc
    refine lv_if_eq (tgt := 36) hx hb dX7_reach_19 (by decide) (fun hq => ?_) (fun hq => ?_)
    · replace hf := jx_pos hq hf
      refine lv_sipush (v := -1002) hx hb dX7_reach_36 (by decide) ?_
      have he := jx_eq hf
      subst he
      exact jx_reti hx hb hr hlocks rfl hK hP hD hS dX7_reach_39
    · replace hf := jx_neg hq hf
      refine lv_aload_n hx hb dX7_reach_22 rfl (lv_at hl 0 rfl) ?_
      refine va_get (D := D) (ci := 6) (v := .ref (a 2)) (C := RX7) (T := TX7) (N := 14) hx hb hts iw_X7_reach_X7 hown hK hP 0 rfl rfl 3 (by decide) (hts (.fieldLink RX7 13 "PassedDutiesModel" "reaches" "[I") (by decide +kernel)) (fun _ h9 => h9) rfl dX7_reach_23 ?_
      refine lv_bipush (v := 12) hx hb dX7_reach_26 (by decide) ?_
      refine lv_iload_n hx hb dX7_reach_28 rfl (lv_at hl 1 rfl) ?_
      refine lv_imul hx hb dX7_reach_29 ?_
      refine lv_iload_n hx hb dX7_reach_30 rfl (lv_at hl 2 rfl) ?_
      refine lv_iadd hx hb dX7_reach_31 ?_
      obtain ⟨hi, hf⟩ := jx_gs hf
      refine va_iald hx hb hK hP 2 0 rfl rfl (jx_ip hi) dX7_reach_32 ?_
      clear hi
      refine lv_goto (tgt := 39) hx hb dX7_reach_33 (by decide) ?_
      have he := jx_eq hf
      subst he
      exact jx_reti hx hb hr hlocks rfl hK hP hD hS dX7_reach_39
  · replace hf := jx_negn hq hf
    refine lv_sipush (v := -1001) hx hb dX7_reach_8 (by decide) ?_
    have he := jx_eq hf
    subst he
    exact jx_reti hx hb hr hlocks rfl hK hP hD hS dX7_reach_11
theorem iw_X7_terms_X7 : ∀ w ∈ wsX70, w ∈ wsX7_terms := by decide +kernel
set_option maxHeartbeats 4000000 in
set_option maxRecDepth 100000 in
theorem c_X7_terms (l : Launch) (D : va_G) (a : Nat → Nat) (cI cL : ClassId) (nl : Int32) (np : (Nat → Int32)) (nt : Int32) (nr : (Nat → Int32)) (nh : Int32) (ns : (Nat → Int32)) (nk : (Nat → Int32)) (ne : Int32) (nw : Int32) (na : (Nat → Int32)) (nf : (Nat → Int32)) (nc : Int32) (ng : (Nat → Int32)) (nx : Int64) (res : (Int32 × Int32 × Int32 × (Nat → Int32))) (hf : pf_X7_terms nl np nt nr = some res) : jMi l yX7_terms wsX7_terms ({ frames := 3, cells := 0, slots := 0, locals := 67 }) D [(cI, .int), (cL, .long)] [.ref (a 0)] (wM a cI cL nl np nt nr nh ns nk ne nw na nf nc ng nx) res.1 (wM a cI cL res.2.1 np res.2.2.1 res.2.2.2 nh ns nk ne nw na nf nc ng nx) := by
  intro sz
  refine Met.ofW (cc := cX7_terms) (maxL := 3) (ret := (some .int)) (by decide) rfl ?_
  intro p e s m args below meth c s₁ B hml hv
  obtain ⟨rfl, hsz, hP, hK, hD0, hN⟩ := hv
  have hx := B.exec
  have hb := B.bytes
  have hr := B.returns
  have hts := atoms_spec (ws := wsX7_terms) B.pre
  have hown : s.vm.findClass RX7 = some m.cls := findClass_of_methodNamed B.named
  have hlocks := B.notSynchronized
  subst hsz
  have hD := hD0.self (sz := s.heap.size)
  generalize hAe : va_A (wM a cI cL nl np nt nr nh ns nk ne nw na nf nc ng nx) s.heap.size = A at hD ⊢
  have hA : ∀ q : Nat, s.heap.size ≤ q → A q := fun q h => by rw [← hAe]; exact Or.inr h
  have hS : va_S A s.heap s.heap [] := va_S.rf
  have hl := lv_entry ([.ref (a 0)]) (n := 3) (Nat.le_of_ble_eq_true rfl)
  rw [lg_entry_eq]
  generalize (lg_sl ([.ref (a 0)]) ++ List.replicate (3 - (lg_sl ([.ref (a 0)])).length) Slot.unset).toArray = ls at hl ⊢
  have hl : lv_has ls 3 [(0, .ref (a 0))] := hl
  have hf : pf_X7_terms nl np nt nr = some res := hf
  refine lv_aload_n hx hb dX7_terms_0 rfl (lv_at hl 0 rfl) ?_
  refine va_get (D := D) (ci := 6) (v := .int nl) (C := RX7) (T := TX7) (N := 14) hx hb hts iw_X7_terms_X7 hown hK hP 0 rfl rfl 0 (by decide) (hts (.fieldLink RX7 35 "PassedDutiesModel" "pageLength" "I") (by decide +kernel)) (fun _ h9 => h9) rfl dX7_terms_1 ?_
  refine lv_if_eq (tgt := 18) hx hb dX7_terms_4 (by decide) (fun hq => ?_) (fun hq => ?_)
  · replace hf := jx_pos hq hf
    refine lv_sipush (v := -1003) hx hb dX7_terms_18 (by decide) ?_
    have he := jx_eq hf
    subst he
    exact jx_reti hx hb hr hlocks rfl hK hP hD hS dX7_terms_21
  · replace hf := jx_neg hq hf
    refine lv_aload_n hx hb dX7_terms_7 rfl (lv_at hl 0 rfl) ?_
    obtain ⟨r1, hc, hf⟩ := jx_bs hf
    refine jx_ki (wr := []) (ws2 := (wM a cI cL nl np nt r1.2 nh ns nk ne nw na nf nc ng nx)) (jx_runV (As := []) (rest := []) ⟨hx, hb, hml, hown, hts⟩ (c_X7_readPage l D a cI cL nl np nt nr nh ns nk ne nw na nf nc ng nx r1 hc _) (cwV 0 hts gX7_terms_X7_readPage rfl rfl rfl (by decide +kernel) ⟨Nat.le_of_ble_eq_true rfl, Nat.le_of_ble_eq_true rfl⟩) hK hN hP hD [0, 1, 2, 3, 4, 5, 6, 7] rfl (by decide) 0 6 rfl rfl rfl hl.1 rfl (Nat.le_of_ble_eq_true rfl) dX7_terms_8 ⟨Nat.le_of_ble_eq_true rfl, Nat.le_of_ble_eq_true rfl⟩) hP hD hS hA [0, 1, 2, 3, 4, 5, 6, 7] [] [0, 1, 2, 3, 4, 5, 6, 7] rfl rfl (by decide) (by decide) rfl (by decide) (fun H locs hP hD hS => ?_)
    clear hc
    refine lv_aload_n hx hb dX7_terms_11 rfl (lv_at hl 0 rfl) ?_
    refine va_get (D := D) (ci := 6) (v := .int nl) (C := RX7) (T := TX7) (N := 14) hx hb hts iw_X7_terms_X7 hown hK hP 0 rfl rfl 0 (by decide) (hts (.fieldLink RX7 35 "PassedDutiesModel" "pageLength" "I") (by decide +kernel)) (fun _ h9 => h9) rfl dX7_terms_12 ?_
    refine lv_icmp_ge (tgt := 22) hx hb dX7_terms_15 (by decide) (fun hq => ?_) (fun hq => ?_)
    · replace hf := jx_pos hq hf
      refine lv_aload_n hx hb dX7_terms_22 rfl (lv_at hl 0 rfl) ?_
      refine lv_bipush (v := 96) hx hb dX7_terms_23 (by decide) ?_
      obtain ⟨r2, hc, hf⟩ := jx_bs hf
      refine jx_ki (wr := []) (ws2 := (wM a cI cL nl np nt r1.2 nh ns nk ne nw na nf nc ng nx)) (jx_runV (As := [.int (96 : Int32)]) (rest := []) ⟨hx, hb, hml, hown, hts⟩ (c_X7_likeRead l D a cI cL nl np nt r1.2 nh ns nk ne nw na nf nc ng nx (96 : Int32) r2 hc _) (cwV 1 hts gX7_terms_X7_likeRead rfl rfl rfl (by decide +kernel) ⟨Nat.le_of_ble_eq_true rfl, Nat.le_of_ble_eq_true rfl⟩) hK hN hP hD [0, 1, 2, 3, 4, 5, 6, 7] rfl (by decide) 0 6 rfl rfl rfl hl.1 rfl (Nat.le_of_ble_eq_true rfl) dX7_terms_25 ⟨Nat.le_of_ble_eq_true rfl, Nat.le_of_ble_eq_true rfl⟩) hP hD hS hA [0, 1, 2, 3, 4, 5, 6, 7] [] [0, 1, 2, 3, 4, 5, 6, 7] rfl rfl (by decide) (by decide) rfl (by decide) (fun H locs hP hD hS => ?_)
      clear hc
      refine lv_istore_n (lv' := [(1, .int r2), (0, .ref (a 0))]) hx hb dX7_terms_28 rfl hl (by decide) rfl (fun ls hl => ?_)
      refine lv_iload_n hx hb dX7_terms_29 rfl (lv_at hl 0 rfl) ?_
      refine lv_iconst (v := -1) hx hb dX7_terms_30 (by decide) ?_
      refine lv_icmp_ne (tgt := 47) hx hb dX7_terms_31 (by decide) (fun hq => ?_) (fun hq => ?_)
      · replace hf := jx_pos hq hf
        refine lv_aload_n hx hb dX7_terms_47 rfl (lv_at hl 1 rfl) ?_
        refine lv_iconst (v := 0) hx hb dX7_terms_48 (by decide) ?_
        refine va_put (D := D) (ci := 6) (v := .int (0 : Int32)) (ty := .int) (C := RX7) (T := TX7) (N := 14) hx hb hts iw_X7_terms_X7 tyX7 tyX7_ok nmX7 hown hK hP hD hS 0 rfl rfl 0 (by decide) (hts (.fieldLink RX7 35 "PassedDutiesModel" "pageLength" "I") (by decide +kernel)) (fun _ h9 => h9) rfl (by decide +kernel) rfl rfl (Nat.le_of_ble_eq_true rfl) dX7_terms_49 (fun H locs hP hD hS => ?_)
        have hP : va_P D vwCl (wM a cI cL (0 : Int32) np nt r1.2 nh ns nk ne nw na nf nc ng nx) H := hP
        have hD : va_D A (wM a cI cL (0 : Int32) np nt r1.2 nh ns nk ne nw na nf nc ng nx) := hD
        refine lv_iload_n hx hb dX7_terms_52 rfl (lv_at hl 0 rfl) ?_
        refine lv_iconst (v := -1) hx hb dX7_terms_53 (by decide) ?_
        refine lv_icmp_eq (tgt := 59) hx hb dX7_terms_54 (by decide) (fun hq => ?_) (fun hq => ?_)
        · replace hf := jx_pos hq hf
          refine lv_iconst (v := 0) hx hb dX7_terms_59 (by decide) ?_
          refine lv_istore_n (lv' := [(2, .int (0 : Int32)), (1, .int r2), (0, .ref (a 0))]) hx hb dX7_terms_60 rfl hl (by decide) rfl (fun ls hl => ?_)
          obtain ⟨k4, hf, hkk4⟩ := jx_bs hf
          have hXk4 : ∀ (H : Heap) (locs : List Loc) (ls : Array Slot), va_P D vwCl (wM a cI cL (0 : Int32) np nt k4 nh ns nk ne nw na nf nc ng nx) H → va_D A (wM a cI cL (0 : Int32) np nt k4 nh ns nk ne nw na nf nc ng nx) → va_S A s.heap H locs → lv_has ls 3 [(0, .ref (a 0))] → jx_Wi p l e wsX7_terms ({ frames := 3, cells := 0, slots := 0, locals := 67 }) s m [.ref (a 0)] below meth c D [(cI, .int), (cL, .long)] (res.1) (wM a cI cL res.2.1 np res.2.2.1 res.2.2.2 nh ns nk ne nw na nf nc ng nx) A H locs (F0 m 96 ls []) := by
            clear hf hP hD hS hl
            intro H locs ls hP hD hS hl
            have hf := hkk4
            refine lv_aload_n hx hb dX7_terms_96 rfl (lv_at hl 0 rfl) ?_
            refine lv_dup hx hb dX7_terms_97 rfl ?_
            refine va_get (D := D) (ci := 6) (v := .int nt) (C := RX7) (T := TX7) (N := 14) hx hb hts iw_X7_terms_X7 hown hK hP 0 rfl rfl 2 (by decide) (hts (.fieldLink RX7 47 "PassedDutiesModel" "termsMany" "I") (by decide +kernel)) (fun _ h9 => h9) rfl dX7_terms_98 ?_
            refine lv_iconst (v := 1) hx hb dX7_terms_101 (by decide) ?_
            refine lv_iadd hx hb dX7_terms_102 ?_
            refine va_put (D := D) (ci := 6) (v := .int (nt + (1 : Int32))) (ty := .int) (C := RX7) (T := TX7) (N := 14) hx hb hts iw_X7_terms_X7 tyX7 tyX7_ok nmX7 hown hK hP hD hS 0 rfl rfl 2 (by decide) (hts (.fieldLink RX7 47 "PassedDutiesModel" "termsMany" "I") (by decide +kernel)) (fun _ h9 => h9) rfl (by decide +kernel) rfl rfl (Nat.le_of_ble_eq_true rfl) dX7_terms_103 (fun H locs hP hD hS => ?_)
            have hP : va_P D vwCl (wM a cI cL (0 : Int32) np (nt + (1 : Int32)) k4 nh ns nk ne nw na nf nc ng nx) H := hP
            have hD : va_D A (wM a cI cL (0 : Int32) np (nt + (1 : Int32)) k4 nh ns nk ne nw na nf nc ng nx) := hD
            refine lv_aload_n hx hb dX7_terms_106 rfl (lv_at hl 0 rfl) ?_
            refine va_get (D := D) (ci := 6) (v := .int (nt + (1 : Int32))) (C := RX7) (T := TX7) (N := 14) hx hb hts iw_X7_terms_X7 hown hK hP 0 rfl rfl 2 (by decide) (hts (.fieldLink RX7 47 "PassedDutiesModel" "termsMany" "I") (by decide +kernel)) (fun _ h9 => h9) rfl dX7_terms_107 ?_
            refine lv_iconst (v := 1) hx hb dX7_terms_110 (by decide) ?_
            refine lv_isub hx hb dX7_terms_111 ?_
            have he := jx_eq hf
            subst he
            exact jx_reti hx hb hr hlocks rfl hK hP hD hS dX7_terms_112
          have hLk4 : ∀ (n : Nat) (s3 : (Int32 × (Nat → Int32))) (H : Heap) (locs : List Loc) (ls : Array Slot), jx_iter (pf_X7_terms_s1 nt) n s3 = some k4 → va_P D vwCl (wM a cI cL (0 : Int32) np nt s3.2 nh ns nk ne nw na nf nc ng nx) H → va_D A (wM a cI cL (0 : Int32) np nt s3.2 nh ns nk ne nw na nf nc ng nx) → va_S A s.heap H locs → lv_has ls 3 [(0, .ref (a 0)), (2, .int s3.1)] → jx_Wi p l e wsX7_terms ({ frames := 3, cells := 0, slots := 0, locals := 67 }) s m [.ref (a 0)] below meth c D [(cI, .int), (cL, .long)] (res.1) (wM a cI cL res.2.1 np res.2.2.1 res.2.2.2 nh ns nk ne nw na nf nc ng nx) A H locs (F0 m 61 ls []) := by
            clear hf hP hD hS hl
            intro n
            induction n with
            | zero => intro s3 _ _ _ hf; cases hf
            | succ n ihk4 =>
              intro s3 H locs ls hf hP hD hS hl
              obtain ⟨q5, hf, hgk4⟩ := jx_bs hf
              refine lv_iload_n hx hb dX7_terms_61 rfl (lv_at hl 1 rfl) ?_
              refine lv_bipush (v := 12) hx hb dX7_terms_62 (by decide) ?_
              refine lv_icmp_ge (tgt := 96) hx hb dX7_terms_64 (by decide) (fun hq => ?_) (fun hq => ?_)
              · replace hf := jx_pos hq hf
                have he := jx_eq hf
                subst he
                have he : _ = k4 := jx_eq hgk4
                subst he
                exact hXk4 _ _ _ hP hD hS (lv_sub hl [0] rfl)
              · replace hf := jx_neg hq hf
                refine lv_aload_n hx hb dX7_terms_67 rfl (lv_at hl 0 rfl) ?_
                refine va_get (D := D) (ci := 6) (v := .ref (a 2)) (C := RX7) (T := TX7) (N := 14) hx hb hts iw_X7_terms_X7 hown hK hP 0 rfl rfl 3 (by decide) (hts (.fieldLink RX7 13 "PassedDutiesModel" "reaches" "[I") (by decide +kernel)) (fun _ h9 => h9) rfl dX7_terms_68 ?_
                refine lv_bipush (v := 12) hx hb dX7_terms_71 (by decide) ?_
                refine lv_aload_n hx hb dX7_terms_73 rfl (lv_at hl 0 rfl) ?_
                refine va_get (D := D) (ci := 6) (v := .int nt) (C := RX7) (T := TX7) (N := 14) hx hb hts iw_X7_terms_X7 hown hK hP 0 rfl rfl 2 (by decide) (hts (.fieldLink RX7 47 "PassedDutiesModel" "termsMany" "I") (by decide +kernel)) (fun _ h9 => h9) rfl dX7_terms_74 ?_
                refine lv_imul hx hb dX7_terms_77 ?_
                refine lv_iload_n hx hb dX7_terms_78 rfl (lv_at hl 1 rfl) ?_
                refine lv_iadd hx hb dX7_terms_79 ?_
                refine lv_aload_n hx hb dX7_terms_80 rfl (lv_at hl 0 rfl) ?_
                refine va_get (D := D) (ci := 6) (v := .ref (a 2)) (C := RX7) (T := TX7) (N := 14) hx hb hts iw_X7_terms_X7 hown hK hP 0 rfl rfl 3 (by decide) (hts (.fieldLink RX7 13 "PassedDutiesModel" "reaches" "[I") (by decide +kernel)) (fun _ h9 => h9) rfl dX7_terms_81 ?_
                refine lv_bipush (v := 96) hx hb dX7_terms_84 (by decide) ?_
                refine lv_iload_n hx hb dX7_terms_86 rfl (lv_at hl 1 rfl) ?_
                refine lv_iadd hx hb dX7_terms_87 ?_
                obtain ⟨hi, hf⟩ := jx_gs hf
                refine va_iald hx hb hK hP 2 0 rfl rfl (jx_ip hi) dX7_terms_88 ?_
                clear hi
                obtain ⟨hi, hf⟩ := jx_gs hf
                refine va_iast hx hb hK hP hD hS 2 0 rfl rfl (jx_ip hi) dX7_terms_89 (fun H locs hP hD hS => ?_)
                clear hi
                have hP : va_P D vwCl (wM a cI cL (0 : Int32) np nt (upd s3.2 ((((12 : Int32) * nt) + s3.1)).toNatClampNeg (s3.2 (((96 : Int32) + s3.1)).toNatClampNeg)) nh ns nk ne nw na nf nc ng nx) H := hP
                have hD : va_D A (wM a cI cL (0 : Int32) np nt (upd s3.2 ((((12 : Int32) * nt) + s3.1)).toNatClampNeg (s3.2 (((96 : Int32) + s3.1)).toNatClampNeg)) nh ns nk ne nw na nf nc ng nx) := hD
                refine lv_iinc (v := (s3.1 + (1 : Int32))) (lv' := [(2, .int (s3.1 + (1 : Int32))), (0, .ref (a 0))]) hx hb dX7_terms_90 hl (k := 1) rfl rfl (by decide) rfl (fun ls hl => ?_)
                refine lv_goto (tgt := 61) hx hb dX7_terms_93 (by decide) ?_
                have he := jx_eq hf
                subst he
                exact ihk4 ((s3.1 + (1 : Int32)), (upd s3.2 ((((12 : Int32) * nt) + s3.1)).toNatClampNeg (s3.2 (((96 : Int32) + s3.1)).toNatClampNeg))) _ _ _ hgk4 hP hD hS (lv_sub hl [1, 0] rfl)
          exact hLk4 jx_F ((0 : Int32), r1.2) _ _ _ hf hP hD hS (lv_sub hl [2, 0] rfl)
        · replace hf := jx_neg hq hf
          refine lv_iload_n hx hb dX7_terms_57 rfl (lv_at hl 0 rfl) ?_
          have he := jx_eq hf
          subst he
          exact jx_reti hx hb hr hlocks rfl hK hP hD hS dX7_terms_58
      · replace hf := jx_negn hq hf
        refine lv_aload_n hx hb dX7_terms_34 rfl (lv_at hl 1 rfl) ?_
        refine va_get (D := D) (ci := 6) (v := .int nt) (C := RX7) (T := TX7) (N := 14) hx hb hts iw_X7_terms_X7 hown hK hP 0 rfl rfl 2 (by decide) (hts (.fieldLink RX7 47 "PassedDutiesModel" "termsMany" "I") (by decide +kernel)) (fun _ h9 => h9) rfl dX7_terms_35 ?_
        refine lv_bipush (v := 8) hx hb dX7_terms_38 (by decide) ?_
        refine lv_icmp_ne (tgt := 47) hx hb dX7_terms_40 (by decide) (fun hq => ?_) (fun hq => ?_)
        · replace hf := jx_pos hq hf
          refine lv_aload_n hx hb dX7_terms_47 rfl (lv_at hl 1 rfl) ?_
          refine lv_iconst (v := 0) hx hb dX7_terms_48 (by decide) ?_
          refine va_put (D := D) (ci := 6) (v := .int (0 : Int32)) (ty := .int) (C := RX7) (T := TX7) (N := 14) hx hb hts iw_X7_terms_X7 tyX7 tyX7_ok nmX7 hown hK hP hD hS 0 rfl rfl 0 (by decide) (hts (.fieldLink RX7 35 "PassedDutiesModel" "pageLength" "I") (by decide +kernel)) (fun _ h9 => h9) rfl (by decide +kernel) rfl rfl (Nat.le_of_ble_eq_true rfl) dX7_terms_49 (fun H locs hP hD hS => ?_)
          have hP : va_P D vwCl (wM a cI cL (0 : Int32) np nt r1.2 nh ns nk ne nw na nf nc ng nx) H := hP
          have hD : va_D A (wM a cI cL (0 : Int32) np nt r1.2 nh ns nk ne nw na nf nc ng nx) := hD
          refine lv_iload_n hx hb dX7_terms_52 rfl (lv_at hl 0 rfl) ?_
          refine lv_iconst (v := -1) hx hb dX7_terms_53 (by decide) ?_
          refine lv_icmp_eq (tgt := 59) hx hb dX7_terms_54 (by decide) (fun hq => ?_) (fun hq => ?_)
          · replace hf := jx_pos hq hf
            refine lv_iconst (v := 0) hx hb dX7_terms_59 (by decide) ?_
            refine lv_istore_n (lv' := [(2, .int (0 : Int32)), (1, .int r2), (0, .ref (a 0))]) hx hb dX7_terms_60 rfl hl (by decide) rfl (fun ls hl => ?_)
            obtain ⟨k7, hf, hkk7⟩ := jx_bs hf
            have hXk7 : ∀ (H : Heap) (locs : List Loc) (ls : Array Slot), va_P D vwCl (wM a cI cL (0 : Int32) np nt k7 nh ns nk ne nw na nf nc ng nx) H → va_D A (wM a cI cL (0 : Int32) np nt k7 nh ns nk ne nw na nf nc ng nx) → va_S A s.heap H locs → lv_has ls 3 [(0, .ref (a 0))] → jx_Wi p l e wsX7_terms ({ frames := 3, cells := 0, slots := 0, locals := 67 }) s m [.ref (a 0)] below meth c D [(cI, .int), (cL, .long)] (res.1) (wM a cI cL res.2.1 np res.2.2.1 res.2.2.2 nh ns nk ne nw na nf nc ng nx) A H locs (F0 m 96 ls []) := by
              clear hf hP hD hS hl
              intro H locs ls hP hD hS hl
              have hf := hkk7
              refine lv_aload_n hx hb dX7_terms_96 rfl (lv_at hl 0 rfl) ?_
              refine lv_dup hx hb dX7_terms_97 rfl ?_
              refine va_get (D := D) (ci := 6) (v := .int nt) (C := RX7) (T := TX7) (N := 14) hx hb hts iw_X7_terms_X7 hown hK hP 0 rfl rfl 2 (by decide) (hts (.fieldLink RX7 47 "PassedDutiesModel" "termsMany" "I") (by decide +kernel)) (fun _ h9 => h9) rfl dX7_terms_98 ?_
              refine lv_iconst (v := 1) hx hb dX7_terms_101 (by decide) ?_
              refine lv_iadd hx hb dX7_terms_102 ?_
              refine va_put (D := D) (ci := 6) (v := .int (nt + (1 : Int32))) (ty := .int) (C := RX7) (T := TX7) (N := 14) hx hb hts iw_X7_terms_X7 tyX7 tyX7_ok nmX7 hown hK hP hD hS 0 rfl rfl 2 (by decide) (hts (.fieldLink RX7 47 "PassedDutiesModel" "termsMany" "I") (by decide +kernel)) (fun _ h9 => h9) rfl (by decide +kernel) rfl rfl (Nat.le_of_ble_eq_true rfl) dX7_terms_103 (fun H locs hP hD hS => ?_)
              have hP : va_P D vwCl (wM a cI cL (0 : Int32) np (nt + (1 : Int32)) k7 nh ns nk ne nw na nf nc ng nx) H := hP
              have hD : va_D A (wM a cI cL (0 : Int32) np (nt + (1 : Int32)) k7 nh ns nk ne nw na nf nc ng nx) := hD
              refine lv_aload_n hx hb dX7_terms_106 rfl (lv_at hl 0 rfl) ?_
              refine va_get (D := D) (ci := 6) (v := .int (nt + (1 : Int32))) (C := RX7) (T := TX7) (N := 14) hx hb hts iw_X7_terms_X7 hown hK hP 0 rfl rfl 2 (by decide) (hts (.fieldLink RX7 47 "PassedDutiesModel" "termsMany" "I") (by decide +kernel)) (fun _ h9 => h9) rfl dX7_terms_107 ?_
              refine lv_iconst (v := 1) hx hb dX7_terms_110 (by decide) ?_
              refine lv_isub hx hb dX7_terms_111 ?_
              have he := jx_eq hf
              subst he
              exact jx_reti hx hb hr hlocks rfl hK hP hD hS dX7_terms_112
            have hLk7 : ∀ (n : Nat) (s6 : (Int32 × (Nat → Int32))) (H : Heap) (locs : List Loc) (ls : Array Slot), jx_iter (pf_X7_terms_s2 nt) n s6 = some k7 → va_P D vwCl (wM a cI cL (0 : Int32) np nt s6.2 nh ns nk ne nw na nf nc ng nx) H → va_D A (wM a cI cL (0 : Int32) np nt s6.2 nh ns nk ne nw na nf nc ng nx) → va_S A s.heap H locs → lv_has ls 3 [(0, .ref (a 0)), (2, .int s6.1)] → jx_Wi p l e wsX7_terms ({ frames := 3, cells := 0, slots := 0, locals := 67 }) s m [.ref (a 0)] below meth c D [(cI, .int), (cL, .long)] (res.1) (wM a cI cL res.2.1 np res.2.2.1 res.2.2.2 nh ns nk ne nw na nf nc ng nx) A H locs (F0 m 61 ls []) := by
              clear hf hP hD hS hl
              intro n
              induction n with
              | zero => intro s6 _ _ _ hf; cases hf
              | succ n ihk7 =>
                intro s6 H locs ls hf hP hD hS hl
                obtain ⟨q8, hf, hgk7⟩ := jx_bs hf
                refine lv_iload_n hx hb dX7_terms_61 rfl (lv_at hl 1 rfl) ?_
                refine lv_bipush (v := 12) hx hb dX7_terms_62 (by decide) ?_
                refine lv_icmp_ge (tgt := 96) hx hb dX7_terms_64 (by decide) (fun hq => ?_) (fun hq => ?_)
                · replace hf := jx_pos hq hf
                  have he := jx_eq hf
                  subst he
                  have he : _ = k7 := jx_eq hgk7
                  subst he
                  exact hXk7 _ _ _ hP hD hS (lv_sub hl [0] rfl)
                · replace hf := jx_neg hq hf
                  refine lv_aload_n hx hb dX7_terms_67 rfl (lv_at hl 0 rfl) ?_
                  refine va_get (D := D) (ci := 6) (v := .ref (a 2)) (C := RX7) (T := TX7) (N := 14) hx hb hts iw_X7_terms_X7 hown hK hP 0 rfl rfl 3 (by decide) (hts (.fieldLink RX7 13 "PassedDutiesModel" "reaches" "[I") (by decide +kernel)) (fun _ h9 => h9) rfl dX7_terms_68 ?_
                  refine lv_bipush (v := 12) hx hb dX7_terms_71 (by decide) ?_
                  refine lv_aload_n hx hb dX7_terms_73 rfl (lv_at hl 0 rfl) ?_
                  refine va_get (D := D) (ci := 6) (v := .int nt) (C := RX7) (T := TX7) (N := 14) hx hb hts iw_X7_terms_X7 hown hK hP 0 rfl rfl 2 (by decide) (hts (.fieldLink RX7 47 "PassedDutiesModel" "termsMany" "I") (by decide +kernel)) (fun _ h9 => h9) rfl dX7_terms_74 ?_
                  refine lv_imul hx hb dX7_terms_77 ?_
                  refine lv_iload_n hx hb dX7_terms_78 rfl (lv_at hl 1 rfl) ?_
                  refine lv_iadd hx hb dX7_terms_79 ?_
                  refine lv_aload_n hx hb dX7_terms_80 rfl (lv_at hl 0 rfl) ?_
                  refine va_get (D := D) (ci := 6) (v := .ref (a 2)) (C := RX7) (T := TX7) (N := 14) hx hb hts iw_X7_terms_X7 hown hK hP 0 rfl rfl 3 (by decide) (hts (.fieldLink RX7 13 "PassedDutiesModel" "reaches" "[I") (by decide +kernel)) (fun _ h9 => h9) rfl dX7_terms_81 ?_
                  refine lv_bipush (v := 96) hx hb dX7_terms_84 (by decide) ?_
                  refine lv_iload_n hx hb dX7_terms_86 rfl (lv_at hl 1 rfl) ?_
                  refine lv_iadd hx hb dX7_terms_87 ?_
                  obtain ⟨hi, hf⟩ := jx_gs hf
                  refine va_iald hx hb hK hP 2 0 rfl rfl (jx_ip hi) dX7_terms_88 ?_
                  clear hi
                  obtain ⟨hi, hf⟩ := jx_gs hf
                  refine va_iast hx hb hK hP hD hS 2 0 rfl rfl (jx_ip hi) dX7_terms_89 (fun H locs hP hD hS => ?_)
                  clear hi
                  have hP : va_P D vwCl (wM a cI cL (0 : Int32) np nt (upd s6.2 ((((12 : Int32) * nt) + s6.1)).toNatClampNeg (s6.2 (((96 : Int32) + s6.1)).toNatClampNeg)) nh ns nk ne nw na nf nc ng nx) H := hP
                  have hD : va_D A (wM a cI cL (0 : Int32) np nt (upd s6.2 ((((12 : Int32) * nt) + s6.1)).toNatClampNeg (s6.2 (((96 : Int32) + s6.1)).toNatClampNeg)) nh ns nk ne nw na nf nc ng nx) := hD
                  refine lv_iinc (v := (s6.1 + (1 : Int32))) (lv' := [(2, .int (s6.1 + (1 : Int32))), (0, .ref (a 0))]) hx hb dX7_terms_90 hl (k := 1) rfl rfl (by decide) rfl (fun ls hl => ?_)
                  refine lv_goto (tgt := 61) hx hb dX7_terms_93 (by decide) ?_
                  have he := jx_eq hf
                  subst he
                  exact ihk7 ((s6.1 + (1 : Int32)), (upd s6.2 ((((12 : Int32) * nt) + s6.1)).toNatClampNeg (s6.2 (((96 : Int32) + s6.1)).toNatClampNeg))) _ _ _ hgk7 hP hD hS (lv_sub hl [1, 0] rfl)
            exact hLk7 jx_F ((0 : Int32), r1.2) _ _ _ hf hP hD hS (lv_sub hl [2, 0] rfl)
          · replace hf := jx_neg hq hf
            refine lv_iload_n hx hb dX7_terms_57 rfl (lv_at hl 0 rfl) ?_
            have he := jx_eq hf
            subst he
            exact jx_reti hx hb hr hlocks rfl hK hP hD hS dX7_terms_58
        · replace hf := jx_negn hq hf
          refine lv_sipush (v := -1004) hx hb dX7_terms_43 (by decide) ?_
          have he := jx_eq hf
          subst he
          exact jx_reti hx hb hr hlocks rfl hK hP hD hS dX7_terms_46
    · replace hf := jx_neg hq hf
      refine lv_sipush (v := -1003) hx hb dX7_terms_18 (by decide) ?_
      have he := jx_eq hf
      subst he
      exact jx_reti hx hb hr hlocks rfl hK hP hD hS dX7_terms_21
set_option maxHeartbeats 4000000 in
set_option maxRecDepth 100000 in
theorem c_X7_two (l : Launch) (D : va_G) (a : Nat → Nat) (cI cL : ClassId) (nl : Int32) (np : (Nat → Int32)) (nt : Int32) (nr : (Nat → Int32)) (nh : Int32) (ns : (Nat → Int32)) (nk : (Nat → Int32)) (ne : Int32) (nw : Int32) (na : (Nat → Int32)) (nf : (Nat → Int32)) (nc : Int32) (ng : (Nat → Int32)) (nx : Int64) (p0 : Int32) (p1 : Int32) (p2 : Int32) (res : (Int32 × (Nat → Int32))) (hf : pf_X7_two nt nr p0 p1 p2 = some res) : jMi l yX7_two wsX7_two ({ frames := 2, cells := 0, slots := 0, locals := 50 }) D [(cI, .int), (cL, .long)] [.ref (a 0), .int p0, .int p1, .int p2] (wM a cI cL nl np nt nr nh ns nk ne nw na nf nc ng nx) res.1 (wM a cI cL nl np nt res.2 nh ns nk ne nw na nf nc ng nx) := by
  intro sz
  refine Met.ofW (cc := cX7_two) (maxL := 4) (ret := (some .int)) (by decide) rfl ?_
  intro p e s m args below meth c s₁ B hml hv
  obtain ⟨rfl, hsz, hP, hK, hD0, hN⟩ := hv
  have hx := B.exec
  have hb := B.bytes
  have hr := B.returns
  have hts := atoms_spec (ws := wsX7_two) B.pre
  have hown : s.vm.findClass RX7 = some m.cls := findClass_of_methodNamed B.named
  have hlocks := B.notSynchronized
  subst hsz
  have hD := hD0.self (sz := s.heap.size)
  generalize hAe : va_A (wM a cI cL nl np nt nr nh ns nk ne nw na nf nc ng nx) s.heap.size = A at hD ⊢
  have hA : ∀ q : Nat, s.heap.size ≤ q → A q := fun q h => by rw [← hAe]; exact Or.inr h
  have hS : va_S A s.heap s.heap [] := va_S.rf
  have hl := lv_entry ([.ref (a 0), .int p0, .int p1, .int p2]) (n := 4) (Nat.le_of_ble_eq_true rfl)
  rw [lg_entry_eq]
  generalize (lg_sl ([.ref (a 0), .int p0, .int p1, .int p2]) ++ List.replicate (4 - (lg_sl ([.ref (a 0), .int p0, .int p1, .int p2])).length) Slot.unset).toArray = ls at hl ⊢
  have hl : lv_has ls 4 [(0, .ref (a 0)), (1, .int p0), (2, .int p1), (3, .int p2)] := hl
  have hf : pf_X7_two nt nr p0 p1 p2 = some res := hf
  refine lv_aload_n hx hb dX7_two_0 rfl (lv_at hl 0 rfl) ?_
  refine lv_iload_n hx hb dX7_two_1 rfl (lv_at hl 1 rfl) ?_
  obtain ⟨r1, hc, hf⟩ := jx_bs hf
  refine jx_ki (wr := []) (ws2 := (wM a cI cL nl np nt nr nh ns nk ne nw na nf nc ng nx)) (jx_runV (As := [.int p0]) (rest := []) ⟨hx, hb, hml, hown, hts⟩ (c_X7_isTerms l D a cI cL nl np nt nr nh ns nk ne nw na nf nc ng nx p0 r1 hc _) (cwV 1 hts gX7_two_X7_isTerms rfl rfl rfl (by decide +kernel) ⟨Nat.le_of_ble_eq_true rfl, Nat.le_of_ble_eq_true rfl⟩) hK hN hP hD [0, 1, 2, 3, 4, 5, 6, 7] rfl (by decide) 0 6 rfl rfl rfl hl.1 rfl (Nat.le_of_ble_eq_true rfl) dX7_two_2 ⟨Nat.le_of_ble_eq_true rfl, Nat.le_of_ble_eq_true rfl⟩) hP hD hS hA [0, 1, 2, 3, 4, 5, 6, 7] [] [0, 1, 2, 3, 4, 5, 6, 7] rfl rfl (by decide) (by decide) rfl (by decide) (fun H locs hP hD hS => ?_)
  clear hc
  refine lv_if_eq (tgt := 16) hx hb dX7_two_5 (by decide) (fun hq => ?_) (fun hq => ?_)
  · replace hf := jx_pos hq hf
    refine lv_sipush (v := -1001) hx hb dX7_two_16 (by decide) ?_
    have he := jx_eq hf
    subst he
    exact jx_reti hx hb hr hlocks rfl hK hP hD hS dX7_two_19
  · replace hf := jx_neg hq hf
    refine lv_aload_n hx hb dX7_two_8 rfl (lv_at hl 0 rfl) ?_
    refine lv_iload_n hx hb dX7_two_9 rfl (lv_at hl 2 rfl) ?_
    obtain ⟨r2, hc, hf⟩ := jx_bs hf
    refine jx_ki (wr := []) (ws2 := (wM a cI cL nl np nt nr nh ns nk ne nw na nf nc ng nx)) (jx_runV (As := [.int p1]) (rest := []) ⟨hx, hb, hml, hown, hts⟩ (c_X7_isTerms l D a cI cL nl np nt nr nh ns nk ne nw na nf nc ng nx p1 r2 hc _) (cwV 1 hts gX7_two_X7_isTerms rfl rfl rfl (by decide +kernel) ⟨Nat.le_of_ble_eq_true rfl, Nat.le_of_ble_eq_true rfl⟩) hK hN hP hD [0, 1, 2, 3, 4, 5, 6, 7] rfl (by decide) 0 6 rfl rfl rfl hl.1 rfl (Nat.le_of_ble_eq_true rfl) dX7_two_10 ⟨Nat.le_of_ble_eq_true rfl, Nat.le_of_ble_eq_true rfl⟩) hP hD hS hA [0, 1, 2, 3, 4, 5, 6, 7] [] [0, 1, 2, 3, 4, 5, 6, 7] rfl rfl (by decide) (by decide) rfl (by decide) (fun H locs hP hD hS => ?_)
    clear hc
    refine lv_if_ne (tgt := 20) hx hb dX7_two_13 (by decide) (fun hq => ?_) (fun hq => ?_)
    · replace hf := jx_pos hq hf
      refine lv_iload_n hx hb dX7_two_20 rfl (lv_at hl 3 rfl) ?_
      refine lv_iconst (v := 0) hx hb dX7_two_21 (by decide) ?_
      refine lv_iconst (v := 2) hx hb dX7_two_22 (by decide) ?_
      obtain ⟨r3, hc, hf⟩ := jx_bs hf
      refine jx_ki (wr := [((a 0), .inr (6, [.int nl, .ref (a 1), .int nt, .ref (a 2), .int nh, .ref (a 3), .ref (a 4), .int ne, .int nw, .ref (a 5), .ref (a 6), .int nc, .ref (a 7), .long nx])), ((a 1), .inl (cI, 24, .inl np)), ((a 2), .inl (cI, 108, .inl nr)), ((a 3), .inl (cI, 8, .inl ns)), ((a 4), .inl (cI, 64, .inl nk)), ((a 5), .inl (cI, 8, .inl na)), ((a 6), .inl (cI, 8, .inl nf)), ((a 7), .inl (cI, 48, .inl ng))]) (ws2 := (wM a cI cL nl np nt nr nh ns nk ne nw na nf nc ng nx)) (jx_runS (As := [.int p2, .int (0 : Int32), .int (2 : Int32)]) (rest := []) ⟨hx, hb, hml, hown, hts⟩ (c_X7_within l D a cI cL p2 (0 : Int32) (2 : Int32) r3 hc _) (va_cwS 3 hts gX7_two_X7_within rfl rfl rfl (by decide +kernel) ⟨Nat.le_of_ble_eq_true rfl, Nat.le_of_ble_eq_true rfl⟩) hK hN hP hD [] rfl (by decide) rfl hl.1 rfl (Nat.le_of_ble_eq_true rfl) dX7_two_23 ⟨Nat.le_of_ble_eq_true rfl, Nat.le_of_ble_eq_true rfl⟩) hP hD hS hA [] [0, 1, 2, 3, 4, 5, 6, 7] [0, 1, 2, 3, 4, 5, 6, 7] rfl rfl (by decide) (by decide) rfl (by decide) (fun H locs hP hD hS => ?_)
      clear hc
      refine lv_if_ne (tgt := 33) hx hb dX7_two_26 (by decide) (fun hq => ?_) (fun hq => ?_)
      · replace hf := jx_pos hq hf
        refine lv_iload_n hx hb dX7_two_33 rfl (lv_at hl 3 rfl) ?_
        refine lv_if_ne (tgt := 67) hx hb dX7_two_34 (by decide) (fun hq => ?_) (fun hq => ?_)
        · replace hf := jx_pos hq hf
          refine lv_aload_n hx hb dX7_two_67 rfl (lv_at hl 0 rfl) ?_
          refine lv_iload_n hx hb dX7_two_68 rfl (lv_at hl 1 rfl) ?_
          refine lv_iload_n hx hb dX7_two_69 rfl (lv_at hl 2 rfl) ?_
          refine lv_iload_n hx hb dX7_two_70 rfl (lv_at hl 3 rfl) ?_
          refine lv_iconst (v := 1) hx hb dX7_two_71 (by decide) ?_
          obtain ⟨j4, hf, hkj4⟩ := jx_bs hf
          have hJj4 : ∀ (H : Heap) (locs : List Loc) (ls : Array Slot), va_P D vwCl (wM a cI cL nl np nt nr nh ns nk ne nw na nf nc ng nx) H → va_D A (wM a cI cL nl np nt nr nh ns nk ne nw na nf nc ng nx) → va_S A s.heap H locs → lv_has ls 4 [] → jx_Wi p l e wsX7_two ({ frames := 2, cells := 0, slots := 0, locals := 50 }) s m [.ref (a 0), .int p0, .int p1, .int p2] below meth c D [(cI, .int), (cL, .long)] (res.1) (wM a cI cL nl np nt res.2 nh ns nk ne nw na nf nc ng nx) A H locs (F0 m 80 ls [.int j4, .int p1, .int p0, .ref (a 0)]) := by
            clear hf hP hD hS hl
            intro H locs ls hP hD hS hl
            have hf := hkj4
            obtain ⟨r5, hc, hf⟩ := jx_bs hf
            refine jx_ki (wr := []) (ws2 := (wM a cI cL nl np nt r5.2 nh ns nk ne nw na nf nc ng nx)) (jx_runV (As := [.int p0, .int p1, .int j4]) (rest := []) ⟨hx, hb, hml, hown, hts⟩ (c_X7_puts l D a cI cL nl np nt nr nh ns nk ne nw na nf nc ng nx p0 p1 j4 r5 hc _) (cwV 3 hts gX7_two_X7_puts rfl rfl rfl (by decide +kernel) ⟨Nat.le_of_ble_eq_true rfl, Nat.le_of_ble_eq_true rfl⟩) hK hN hP hD [0, 1, 2, 3, 4, 5, 6, 7] rfl (by decide) 0 6 rfl rfl rfl hl.1 rfl (Nat.le_of_ble_eq_true rfl) dX7_two_80 ⟨Nat.le_of_ble_eq_true rfl, Nat.le_of_ble_eq_true rfl⟩) hP hD hS hA [0, 1, 2, 3, 4, 5, 6, 7] [] [0, 1, 2, 3, 4, 5, 6, 7] rfl rfl (by decide) (by decide) rfl (by decide) (fun H locs hP hD hS => ?_)
            clear hc
            have he := jx_eq hf
            subst he
            exact jx_reti hx hb hr hlocks rfl hK hP hD hS dX7_two_83
          refine lv_icmp_ne (tgt := 79) hx hb dX7_two_72 (by decide) (fun hq => ?_) (fun hq => ?_)
          · replace hf := jx_pos hq hf
            refine lv_iconst (v := 0) hx hb dX7_two_79 (by decide) ?_
            have he := jx_eq hf
            subst he
            exact hJj4 _ _ _ hP hD hS (lv_sub hl [] rfl)
          · replace hf := jx_negn hq hf
            refine lv_iconst (v := 1) hx hb dX7_two_75 (by decide) ?_
            refine lv_goto (tgt := 80) hx hb dX7_two_76 (by decide) ?_
            have he := jx_eq hf
            subst he
            exact hJj4 _ _ _ hP hD hS (lv_sub hl [] rfl)
        · replace hf := jx_negn hq hf
          refine lv_aload_n hx hb dX7_two_37 rfl (lv_at hl 0 rfl) ?_
          refine lv_iload_n hx hb dX7_two_38 rfl (lv_at hl 1 rfl) ?_
          refine lv_iload_n hx hb dX7_two_39 rfl (lv_at hl 2 rfl) ?_
          obtain ⟨r6, hc, hf⟩ := jx_bs hf
          refine jx_ki (wr := []) (ws2 := (wM a cI cL nl np nt nr nh ns nk ne nw na nf nc ng nx)) (jx_runV (As := [.int p0, .int p1]) (rest := []) ⟨hx, hb, hml, hown, hts⟩ (c_X7_isLooser l D a cI cL nl np nt nr nh ns nk ne nw na nf nc ng nx p0 p1 r6 hc _) (cwV 2 hts gX7_two_X7_isLooser rfl rfl rfl (by decide +kernel) ⟨Nat.le_of_ble_eq_true rfl, Nat.le_of_ble_eq_true rfl⟩) hK hN hP hD [0, 1, 2, 3, 4, 5, 6, 7] rfl (by decide) 0 6 rfl rfl rfl hl.1 rfl (Nat.le_of_ble_eq_true rfl) dX7_two_40 ⟨Nat.le_of_ble_eq_true rfl, Nat.le_of_ble_eq_true rfl⟩) hP hD hS hA [0, 1, 2, 3, 4, 5, 6, 7] [] [0, 1, 2, 3, 4, 5, 6, 7] rfl rfl (by decide) (by decide) rfl (by decide) (fun H locs hP hD hS => ?_)
          clear hc
          obtain ⟨j7, hf, hkj7⟩ := jx_bs hf
          have hJj7 : ∀ (H : Heap) (locs : List Loc) (ls : Array Slot), va_P D vwCl (wM a cI cL nl np nt nr nh ns nk ne nw na nf nc ng nx) H → va_D A (wM a cI cL nl np nt nr nh ns nk ne nw na nf nc ng nx) → va_S A s.heap H locs → lv_has ls 4 [(0, .ref (a 0)), (1, .int p0), (2, .int p1)] → jx_Wi p l e wsX7_two ({ frames := 2, cells := 0, slots := 0, locals := 50 }) s m [.ref (a 0), .int p0, .int p1, .int p2] below meth c D [(cI, .int), (cL, .long)] (res.1) (wM a cI cL nl np nt res.2 nh ns nk ne nw na nf nc ng nx) A H locs (F0 m 51 ls [.int j7]) := by
            clear hf hP hD hS hl
            intro H locs ls hP hD hS hl
            have hf := hkj7
            refine lv_aload_n hx hb dX7_two_51 rfl (lv_at hl 0 rfl) ?_
            refine lv_iload_n hx hb dX7_two_52 rfl (lv_at hl 2 rfl) ?_
            refine lv_iload_n hx hb dX7_two_53 rfl (lv_at hl 1 rfl) ?_
            obtain ⟨r8, hc, hf⟩ := jx_bs hf
            refine jx_ki (wr := []) (ws2 := (wM a cI cL nl np nt nr nh ns nk ne nw na nf nc ng nx)) (jx_runV (As := [.int p1, .int p0]) (rest := [.int j7]) ⟨hx, hb, hml, hown, hts⟩ (c_X7_isLooser l D a cI cL nl np nt nr nh ns nk ne nw na nf nc ng nx p1 p0 r8 hc _) (cwV 2 hts gX7_two_X7_isLooser rfl rfl rfl (by decide +kernel) ⟨Nat.le_of_ble_eq_true rfl, Nat.le_of_ble_eq_true rfl⟩) hK hN hP hD [0, 1, 2, 3, 4, 5, 6, 7] rfl (by decide) 0 6 rfl rfl rfl hl.1 rfl (Nat.le_of_ble_eq_true rfl) dX7_two_54 ⟨Nat.le_of_ble_eq_true rfl, Nat.le_of_ble_eq_true rfl⟩) hP hD hS hA [0, 1, 2, 3, 4, 5, 6, 7] [] [0, 1, 2, 3, 4, 5, 6, 7] rfl rfl (by decide) (by decide) rfl (by decide) (fun H locs hP hD hS => ?_)
            clear hc
            obtain ⟨j9, hf, hkj9⟩ := jx_bs hf
            have hJj9 : ∀ (H : Heap) (locs : List Loc) (ls : Array Slot), va_P D vwCl (wM a cI cL nl np nt nr nh ns nk ne nw na nf nc ng nx) H → va_D A (wM a cI cL nl np nt nr nh ns nk ne nw na nf nc ng nx) → va_S A s.heap H locs → lv_has ls 4 [] → jx_Wi p l e wsX7_two ({ frames := 2, cells := 0, slots := 0, locals := 50 }) s m [.ref (a 0), .int p0, .int p1, .int p2] below meth c D [(cI, .int), (cL, .long)] (res.1) (wM a cI cL nl np nt res.2 nh ns nk ne nw na nf nc ng nx) A H locs (F0 m 65 ls [.int j9, .int j7]) := by
              clear hf hP hD hS hl
              intro H locs ls hP hD hS hl
              have hf := hkj9
              refine lv_iadd hx hb dX7_two_65 ?_
              have he := jx_eq hf
              subst he
              exact jx_reti hx hb hr hlocks rfl hK hP hD hS dX7_two_66
            refine lv_if_eq (tgt := 64) hx hb dX7_two_57 (by decide) (fun hq => ?_) (fun hq => ?_)
            · replace hf := jx_pos hq hf
              refine lv_iconst (v := 0) hx hb dX7_two_64 (by decide) ?_
              have he := jx_eq hf
              subst he
              exact hJj9 _ _ _ hP hD hS (lv_sub hl [] rfl)
            · replace hf := jx_neg hq hf
              refine lv_iconst (v := 2) hx hb dX7_two_60 (by decide) ?_
              refine lv_goto (tgt := 65) hx hb dX7_two_61 (by decide) ?_
              have he := jx_eq hf
              subst he
              exact hJj9 _ _ _ hP hD hS (lv_sub hl [] rfl)
          refine lv_if_eq (tgt := 50) hx hb dX7_two_43 (by decide) (fun hq => ?_) (fun hq => ?_)
          · replace hf := jx_pos hq hf
            refine lv_iconst (v := 0) hx hb dX7_two_50 (by decide) ?_
            have he := jx_eq hf
            subst he
            exact hJj7 _ _ _ hP hD hS (lv_sub hl [0, 1, 2] rfl)
          · replace hf := jx_neg hq hf
            refine lv_iconst (v := 1) hx hb dX7_two_46 (by decide) ?_
            refine lv_goto (tgt := 51) hx hb dX7_two_47 (by decide) ?_
            have he := jx_eq hf
            subst he
            exact hJj7 _ _ _ hP hD hS (lv_sub hl [0, 1, 2] rfl)
      · replace hf := jx_negn hq hf
        refine lv_sipush (v := -1002) hx hb dX7_two_29 (by decide) ?_
        have he := jx_eq hf
        subst he
        exact jx_reti hx hb hr hlocks rfl hK hP hD hS dX7_two_32
    · replace hf := jx_negn hq hf
      refine lv_sipush (v := -1001) hx hb dX7_two_16 (by decide) ?_
      have he := jx_eq hf
      subst he
      exact jx_reti hx hb hr hlocks rfl hK hP hD hS dX7_two_19
theorem iw_X7_way_X7 : ∀ w ∈ wsX70, w ∈ wsX7_way := by decide +kernel
set_option maxHeartbeats 4000000 in
set_option maxRecDepth 100000 in
theorem c_X7_way (l : Launch) (D : va_G) (a : Nat → Nat) (cI cL : ClassId) (nl : Int32) (np : (Nat → Int32)) (nt : Int32) (nr : (Nat → Int32)) (nh : Int32) (ns : (Nat → Int32)) (nk : (Nat → Int32)) (ne : Int32) (nw : Int32) (na : (Nat → Int32)) (nf : (Nat → Int32)) (nc : Int32) (ng : (Nat → Int32)) (nx : Int64) (p0 : Int32) (p1 : Int32) (p2 : Int32) (res : (Int32 × Int32 × (Nat → Int32) × (Nat → Int32))) (hf : pf_X7_way nr nh ns nk nw na nf p0 p1 p2 = some res) : jMi l yX7_way wsX7_way ({ frames := 4, cells := 0, slots := 0, locals := 97 }) D [(cI, .int), (cL, .long)] [.ref (a 0), .int p0, .int p1, .int p2] (wM a cI cL nl np nt nr nh ns nk ne nw na nf nc ng nx) res.1 (wM a cI cL nl np nt nr nh ns nk ne res.2.1 res.2.2.1 res.2.2.2 nc ng nx) := by
  intro sz
  refine Met.ofW (cc := cX7_way) (maxL := 4) (ret := (some .int)) (by decide) rfl ?_
  intro p e s m args below meth c s₁ B hml hv
  obtain ⟨rfl, hsz, hP, hK, hD0, hN⟩ := hv
  have hx := B.exec
  have hb := B.bytes
  have hr := B.returns
  have hts := atoms_spec (ws := wsX7_way) B.pre
  have hown : s.vm.findClass RX7 = some m.cls := findClass_of_methodNamed B.named
  have hlocks := B.notSynchronized
  subst hsz
  have hD := hD0.self (sz := s.heap.size)
  generalize hAe : va_A (wM a cI cL nl np nt nr nh ns nk ne nw na nf nc ng nx) s.heap.size = A at hD ⊢
  have hA : ∀ q : Nat, s.heap.size ≤ q → A q := fun q h => by rw [← hAe]; exact Or.inr h
  have hS : va_S A s.heap s.heap [] := va_S.rf
  have hl := lv_entry ([.ref (a 0), .int p0, .int p1, .int p2]) (n := 4) (Nat.le_of_ble_eq_true rfl)
  rw [lg_entry_eq]
  generalize (lg_sl ([.ref (a 0), .int p0, .int p1, .int p2]) ++ List.replicate (4 - (lg_sl ([.ref (a 0), .int p0, .int p1, .int p2])).length) Slot.unset).toArray = ls at hl ⊢
  have hl : lv_has ls 4 [(0, .ref (a 0)), (1, .int p0), (2, .int p1), (3, .int p2)] := hl
  have hf : pf_X7_way nr nh ns nk nw na nf p0 p1 p2 = some res := hf
  refine lv_aload_n hx hb dX7_way_0 rfl (lv_at hl 0 rfl) ?_
  refine lv_iload_n hx hb dX7_way_1 rfl (lv_at hl 1 rfl) ?_
  obtain ⟨r1, hc, hf⟩ := jx_bs hf
  refine jx_ki (wr := []) (ws2 := (wM a cI cL nl np nt nr nh ns nk ne nw na nf nc ng nx)) (jx_runV (As := [.int p0]) (rest := []) ⟨hx, hb, hml, hown, hts⟩ (c_X7_isPart l D a cI cL nl np nt nr nh ns nk ne nw na nf nc ng nx p0 r1 hc _) (cwV 1 hts gX7_way_X7_isPart rfl rfl rfl (by decide +kernel) ⟨Nat.le_of_ble_eq_true rfl, Nat.le_of_ble_eq_true rfl⟩) hK hN hP hD [0, 1, 2, 3, 4, 5, 6, 7] rfl (by decide) 0 6 rfl rfl rfl hl.1 rfl (Nat.le_of_ble_eq_true rfl) dX7_way_2 ⟨Nat.le_of_ble_eq_true rfl, Nat.le_of_ble_eq_true rfl⟩) hP hD hS hA [0, 1, 2, 3, 4, 5, 6, 7] [] [0, 1, 2, 3, 4, 5, 6, 7] rfl rfl (by decide) (by decide) rfl (by decide) (fun H locs hP hD hS => ?_)
  clear hc
  refine lv_if_ne (tgt := 12) hx hb dX7_way_5 (by decide) (fun hq => ?_) (fun hq => ?_)
  · replace hf := jx_pos hq hf
    refine lv_iload_n hx hb dX7_way_12 rfl (lv_at hl 2 rfl) ?_
    refine lv_iconst (v := 0) hx hb dX7_way_13 (by decide) ?_
    refine lv_bipush (v := 11) hx hb dX7_way_14 (by decide) ?_
    obtain ⟨r2, hc, hf⟩ := jx_bs hf
    refine jx_ki (wr := [((a 0), .inr (6, [.int nl, .ref (a 1), .int nt, .ref (a 2), .int nh, .ref (a 3), .ref (a 4), .int ne, .int nw, .ref (a 5), .ref (a 6), .int nc, .ref (a 7), .long nx])), ((a 1), .inl (cI, 24, .inl np)), ((a 2), .inl (cI, 108, .inl nr)), ((a 3), .inl (cI, 8, .inl ns)), ((a 4), .inl (cI, 64, .inl nk)), ((a 5), .inl (cI, 8, .inl na)), ((a 6), .inl (cI, 8, .inl nf)), ((a 7), .inl (cI, 48, .inl ng))]) (ws2 := (wM a cI cL nl np nt nr nh ns nk ne nw na nf nc ng nx)) (jx_runS (As := [.int p1, .int (0 : Int32), .int (11 : Int32)]) (rest := []) ⟨hx, hb, hml, hown, hts⟩ (c_X7_within l D a cI cL p1 (0 : Int32) (11 : Int32) r2 hc _) (va_cwS 3 hts gX7_way_X7_within rfl rfl rfl (by decide +kernel) ⟨Nat.le_of_ble_eq_true rfl, Nat.le_of_ble_eq_true rfl⟩) hK hN hP hD [] rfl (by decide) rfl hl.1 rfl (Nat.le_of_ble_eq_true rfl) dX7_way_16 ⟨Nat.le_of_ble_eq_true rfl, Nat.le_of_ble_eq_true rfl⟩) hP hD hS hA [] [0, 1, 2, 3, 4, 5, 6, 7] [0, 1, 2, 3, 4, 5, 6, 7] rfl rfl (by decide) (by decide) rfl (by decide) (fun H locs hP hD hS => ?_)
    clear hc
    refine lv_if_ne (tgt := 26) hx hb dX7_way_19 (by decide) (fun hq => ?_) (fun hq => ?_)
    · replace hf := jx_pos hq hf
      refine lv_aload_n hx hb dX7_way_26 rfl (lv_at hl 0 rfl) ?_
      refine lv_iload_n hx hb dX7_way_27 rfl (lv_at hl 1 rfl) ?_
      refine lv_iload_n hx hb dX7_way_28 rfl (lv_at hl 2 rfl) ?_
      obtain ⟨r3, hc, hf⟩ := jx_bs hf
      refine jx_kv (wr := []) (ws2 := (wM a cI cL nl np nt nr nh ns nk ne r3.1 r3.2.1 r3.2.2 nc ng nx)) (jx_runV (As := [.int p0, .int p1]) (rest := []) ⟨hx, hb, hml, hown, hts⟩ (c_X7_layWay l D a cI cL nl np nt nr nh ns nk ne nw na nf nc ng nx p0 p1 r3 hc _) (cwV 2 hts gX7_way_X7_layWay rfl rfl rfl (by decide +kernel) ⟨Nat.le_of_ble_eq_true rfl, Nat.le_of_ble_eq_true rfl⟩) hK hN hP hD [0, 1, 2, 3, 4, 5, 6, 7] rfl (by decide) 0 6 rfl rfl rfl hl.1 rfl (Nat.le_of_ble_eq_true rfl) dX7_way_29 ⟨Nat.le_of_ble_eq_true rfl, Nat.le_of_ble_eq_true rfl⟩) hP hD hS hA [0, 1, 2, 3, 4, 5, 6, 7] [] [0, 1, 2, 3, 4, 5, 6, 7] rfl rfl (by decide) (by decide) rfl (by decide) (fun H locs hP hD hS => ?_)
      clear hc
      refine lv_iload_n hx hb dX7_way_32 rfl (lv_at hl 3 rfl) ?_
      refine lv_iconst (v := 0) hx hb dX7_way_33 (by decide) ?_
      refine lv_aload_n hx hb dX7_way_34 rfl (lv_at hl 0 rfl) ?_
      refine va_get (D := D) (ci := 6) (v := .int r3.1) (C := RX7) (T := TX7) (N := 14) hx hb hts iw_X7_way_X7 hown hK hP 0 rfl rfl 8 (by decide) (hts (.fieldLink RX7 100 "PassedDutiesModel" "wayMany" "I") (by decide +kernel)) (fun _ h9 => h9) rfl dX7_way_35 ?_
      refine lv_iconst (v := 1) hx hb dX7_way_38 (by decide) ?_
      refine lv_isub hx hb dX7_way_39 ?_
      obtain ⟨r4, hc, hf⟩ := jx_bs hf
      refine jx_ki (wr := [((a 0), .inr (6, [.int nl, .ref (a 1), .int nt, .ref (a 2), .int nh, .ref (a 3), .ref (a 4), .int ne, .int r3.1, .ref (a 5), .ref (a 6), .int nc, .ref (a 7), .long nx])), ((a 1), .inl (cI, 24, .inl np)), ((a 2), .inl (cI, 108, .inl nr)), ((a 3), .inl (cI, 8, .inl ns)), ((a 4), .inl (cI, 64, .inl nk)), ((a 5), .inl (cI, 8, .inl r3.2.1)), ((a 6), .inl (cI, 8, .inl r3.2.2)), ((a 7), .inl (cI, 48, .inl ng))]) (ws2 := (wM a cI cL nl np nt nr nh ns nk ne r3.1 r3.2.1 r3.2.2 nc ng nx)) (jx_runS (As := [.int p2, .int (0 : Int32), .int (r3.1 - (1 : Int32))]) (rest := []) ⟨hx, hb, hml, hown, hts⟩ (c_X7_within l D a cI cL p2 (0 : Int32) (r3.1 - (1 : Int32)) r4 hc _) (va_cwS 3 hts gX7_way_X7_within rfl rfl rfl (by decide +kernel) ⟨Nat.le_of_ble_eq_true rfl, Nat.le_of_ble_eq_true rfl⟩) hK hN hP hD [] rfl (by decide) rfl hl.1 rfl (Nat.le_of_ble_eq_true rfl) dX7_way_40 ⟨Nat.le_of_ble_eq_true rfl, Nat.le_of_ble_eq_true rfl⟩) hP hD hS hA [] [0, 1, 2, 3, 4, 5, 6, 7] [0, 1, 2, 3, 4, 5, 6, 7] rfl rfl (by decide) (by decide) rfl (by decide) (fun H locs hP hD hS => ?_)
      clear hc
      refine lv_if_eq (tgt := 55) hx hb dX7_way_43 (by decide) (fun hq => ?_) (fun hq => ?_)
      · replace hf := jx_pos hq hf
        refine lv_iconst (v := -1) hx hb dX7_way_55 (by decide) ?_
        have he := jx_eq hf
        subst he
        exact jx_reti hx hb hr hlocks rfl hK hP hD hS dX7_way_56
      · replace hf := jx_neg hq hf
        refine lv_aload_n hx hb dX7_way_46 rfl (lv_at hl 0 rfl) ?_
        refine va_get (D := D) (ci := 6) (v := .ref (a 5)) (C := RX7) (T := TX7) (N := 14) hx hb hts iw_X7_way_X7 hown hK hP 0 rfl rfl 9 (by decide) (hts (.fieldLink RX7 22 "PassedDutiesModel" "wayAt" "[I") (by decide +kernel)) (fun _ h9 => h9) rfl dX7_way_47 ?_
        refine lv_iload_n hx hb dX7_way_50 rfl (lv_at hl 3 rfl) ?_
        obtain ⟨hi, hf⟩ := jx_gs hf
        refine va_iald hx hb hK hP 5 0 rfl rfl (jx_ip hi) dX7_way_51 ?_
        clear hi
        refine lv_goto (tgt := 56) hx hb dX7_way_52 (by decide) ?_
        have he := jx_eq hf
        subst he
        exact jx_reti hx hb hr hlocks rfl hK hP hD hS dX7_way_56
    · replace hf := jx_negn hq hf
      refine lv_sipush (v := -1002) hx hb dX7_way_22 (by decide) ?_
      have he := jx_eq hf
      subst he
      exact jx_reti hx hb hr hlocks rfl hK hP hD hS dX7_way_25
  · replace hf := jx_negn hq hf
    refine lv_sipush (v := -1001) hx hb dX7_way_8 (by decide) ?_
    have he := jx_eq hf
    subst he
    exact jx_reti hx hb hr hlocks rfl hK hP hD hS dX7_way_11
