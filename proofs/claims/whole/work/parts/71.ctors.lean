def pf_J7_fill_53178_s1 (p1 : Int32) : (Int32 × (Nat → Int32)) → Option ((Int32 × (Nat → Int32)) ⊕ (Nat → Int32)) := fun s1 =>
  (if (64 : Int32) ≤ s1.1 then some (.inr s1.2) else (jx_gd (jx_in s1.1 64)).bind fun _ => some (.inl ((s1.1 + (1 : Int32)), (upd s1.2 (s1.1).toNatClampNeg p1))))
def pf_J7_fill_53178 (ia : (Nat → Int32)) (p1 : Int32) : Option (Nat → Int32) :=
  (jx_iter (pf_J7_fill_53178_s1 p1) jx_F ((0 : Int32), ia)).bind fun k2 => some k2
set_option maxHeartbeats 4000000 in
set_option maxRecDepth 100000 in
theorem c_J7_fill_53178 (l : Launch) (D : va_G) (a : Nat → Nat) (b : Nat) (cI cL : ClassId) (ia : (Nat → Int32)) (p1 : Int32) (res : (Nat → Int32)) (hf : pf_J7_fill_53178 ia p1 = some res) : jMv l yJ7_fill_53178 wsJ7_fill_53178 ({ frames := 0, cells := 0, slots := 0, locals := 0 }) D [(cI, .int), (cL, .long)] [.ref b, .int p1] (wIa a b cI cL ia) (wIa a b cI cL res) := by
  intro sz
  refine Met.ofW (cc := cJ7_fill_53178) (maxL := 4) (ret := none) (by decide) rfl ?_
  intro p e s m args below meth c s₁ B hml hv
  obtain ⟨rfl, hsz, hP, hK, hD0, hN⟩ := hv
  have hx := B.exec
  have hb := B.bytes
  have hr := B.returns
  have hts := atoms_spec (ws := wsJ7_fill_53178) B.pre
  have hown : s.vm.findClass RJ7 = some m.cls := findClass_of_methodNamed B.named
  have hlocks := B.notSynchronized
  subst hsz
  have hD := hD0.self (sz := s.heap.size)
  generalize hAe : va_A (wIa a b cI cL ia) s.heap.size = A at hD ⊢
  have hA : ∀ q : Nat, s.heap.size ≤ q → A q := fun q h => by rw [← hAe]; exact Or.inr h
  have hS : va_S A s.heap s.heap [] := va_S.rf
  have hl := lv_entry ([.ref b, .int p1]) (n := 4) (Nat.le_of_ble_eq_true rfl)
  rw [lg_entry_eq]
  generalize (lg_sl ([.ref b, .int p1]) ++ List.replicate (4 - (lg_sl ([.ref b, .int p1])).length) Slot.unset).toArray = ls at hl ⊢
  have hl : lv_has ls 4 [(0, .ref b), (1, .int p1)] := hl
  have hf : pf_J7_fill_53178 ia p1 = some res := hf
  refine lv_iconst (v := 0) hx hb dJ7_fill_53178_0 (by decide) ?_
  refine lv_istore_n (lv' := [(2, .int (0 : Int32)), (0, .ref b), (1, .int p1)]) hx hb dJ7_fill_53178_1 rfl hl (by decide) rfl (fun ls hl => ?_)
  refine lv_aload_n hx hb dJ7_fill_53178_2 rfl (lv_at hl 1 rfl) ?_
  refine va_alen (v := 64) hx hb hK hP 0 0 rfl rfl rfl dJ7_fill_53178_3 ?_
  refine lv_istore_n (lv' := [(3, .int (64 : Int32)), (2, .int (0 : Int32)), (0, .ref b), (1, .int p1)]) hx hb dJ7_fill_53178_4 rfl hl (by decide) rfl (fun ls hl => ?_)
  obtain ⟨k2, hf, hkk2⟩ := jx_bs hf
  have hXk2 : ∀ (H : Heap) (locs : List Loc) (ls : Array Slot), va_P D vwCl (wIa a b cI cL k2) H → va_D A (wIa a b cI cL k2) → va_S A s.heap H locs → lv_has ls 4 [] → jx_Wv p l e wsJ7_fill_53178 ({ frames := 0, cells := 0, slots := 0, locals := 0 }) s m [.ref b, .int p1] below meth c D [(cI, .int), (cL, .long)] (wIa a b cI cL res) A H locs (F0 m 20 ls []) := by
    clear hf hP hD hS hl
    intro H locs ls hP hD hS hl
    have hf := hkk2
    have he := jx_eq hf
    subst he
    exact jx_retv hx hb hr hlocks hK hP hD hS dJ7_fill_53178_20
  have hLk2 : ∀ (n : Nat) (s1 : (Int32 × (Nat → Int32))) (H : Heap) (locs : List Loc) (ls : Array Slot), jx_iter (pf_J7_fill_53178_s1 p1) n s1 = some k2 → va_P D vwCl (wIa a b cI cL s1.2) H → va_D A (wIa a b cI cL s1.2) → va_S A s.heap H locs → lv_has ls 4 [(0, .ref b), (1, .int p1), (2, .int s1.1), (3, .int (64 : Int32))] → jx_Wv p l e wsJ7_fill_53178 ({ frames := 0, cells := 0, slots := 0, locals := 0 }) s m [.ref b, .int p1] below meth c D [(cI, .int), (cL, .long)] (wIa a b cI cL res) A H locs (F0 m 5 ls []) := by
    clear hf hP hD hS hl
    intro n
    induction n with
    | zero => intro s1 _ _ _ hf; cases hf
    | succ n ihk2 =>
      intro s1 H locs ls hf hP hD hS hl
      obtain ⟨q3, hf, hgk2⟩ := jx_bs hf
      refine lv_iload_n hx hb dJ7_fill_53178_5 rfl (lv_at hl 2 rfl) ?_
      refine lv_iload_n hx hb dJ7_fill_53178_6 rfl (lv_at hl 3 rfl) ?_
      refine lv_icmp_ge (tgt := 20) hx hb dJ7_fill_53178_7 (by decide) (fun hq => ?_) (fun hq => ?_)
      · replace hf := jx_pos hq hf
        have he := jx_eq hf
        subst he
        have he : _ = k2 := jx_eq hgk2
        subst he
        exact hXk2 _ _ _ hP hD hS (lv_sub hl [] rfl)
      · replace hf := jx_neg hq hf
        refine lv_aload_n hx hb dJ7_fill_53178_10 rfl (lv_at hl 0 rfl) ?_
        refine lv_iload_n hx hb dJ7_fill_53178_11 rfl (lv_at hl 2 rfl) ?_
        refine lv_iload_n hx hb dJ7_fill_53178_12 rfl (lv_at hl 1 rfl) ?_
        obtain ⟨hi, hf⟩ := jx_gs hf
        refine va_iast hx hb hK hP hD hS 0 0 rfl rfl (jx_ip hi) dJ7_fill_53178_13 (fun H locs hP hD hS => ?_)
        clear hi
        have hP : va_P D vwCl (wIa a b cI cL (upd s1.2 (s1.1).toNatClampNeg p1)) H := hP
        have hD : va_D A (wIa a b cI cL (upd s1.2 (s1.1).toNatClampNeg p1)) := hD
        refine lv_iinc (v := (s1.1 + (1 : Int32))) (lv' := [(2, .int (s1.1 + (1 : Int32))), (0, .ref b), (1, .int p1), (3, .int (64 : Int32))]) hx hb dJ7_fill_53178_14 hl (k := 2) rfl rfl (by decide) rfl (fun ls hl => ?_)
        refine lv_goto (tgt := 5) hx hb dJ7_fill_53178_17 (by decide) ?_
        have he := jx_eq hf
        subst he
        exact ihk2 ((s1.1 + (1 : Int32)), (upd s1.2 (s1.1).toNatClampNeg p1)) _ _ _ hgk2 hP hD hS (lv_sub hl [1, 2, 0, 3] rfl)
  exact hLk2 jx_F ((0 : Int32), ia) _ _ _ hf hP hD hS (lv_sub hl [2, 3, 1, 0] rfl)
def jx_fillv : Nat → Int32 := (pf_J7_fill_53178 (fun _ => 0) (-1 : Int32)).getD (fun _ => 0)
theorem z_fill : ∃ r, pf_J7_fill_53178 (fun _ => 0) (-1 : Int32) = some r ∧ ∀ j, j < 64 → r j = -1 := by
  obtain ⟨r, e, hr⟩ := jx_loop0 (step := pf_J7_fill_53178_s1 (-1 : Int32)) (fun n s => s.1 = nI n ∧ ∀ j, j < n → s.2 j = -1) (fun r => ∀ j, j < 64 → r j = -1) 64 (by omega) ((0 : Int32), (fun _ => 0)) ⟨rfl, fun j hj => absurd hj (Nat.not_lt_zero _)⟩ (by
    rintro n ⟨z, G⟩ hn ⟨rfl, hG⟩
    dsimp only at hG
    unfold pf_J7_fill_53178_s1
    dsimp only
    by_cases h64 : 64 ≤ n
    · rw [k64, if_pos (nI_le h64 (by omega))]
      exact Or.inl ⟨_, rfl, fun j hj => hG j (by omega)⟩
    · rw [k64, if_neg (nI_ge (by omega) (by omega)), jx_gk _ (by omega) (by omega), nI_clamp (by omega), nI_1]
      refine Or.inr ⟨by omega, _, rfl, rfl, fun j hj => ?_⟩
      dsimp only
      by_cases hjn : j = n
      · rw [hjn, pk_us]
      · rw [pk_un hjn]; exact hG j (by omega))
  exact ⟨r, by unfold pf_J7_fill_53178; rw [e, jx_b], hr⟩
theorem jx_fill_eq : pf_J7_fill_53178 (fun _ => 0) (-1 : Int32) = some jx_fillv := by
  obtain ⟨r, e, _⟩ := z_fill
  unfold jx_fillv
  rw [e]; rfl
theorem jx_fill_m1 {j : Nat} (hj : j < 64) : jx_fillv j = -1 := by
  obtain ⟨r, e, h⟩ := z_fill
  unfold jx_fillv
  rw [e]; exact h j hj
theorem iw_X2_init_X2 : ∀ w ∈ wsX20, w ∈ wsX2_init := by decide +kernel
set_option maxHeartbeats 4000000 in
set_option maxRecDepth 100000 in
theorem k_X2_init (l : Launch) (D : va_G) (h : Nat) (cI cL : ClassId) : jMc l yX2_init wsX2_init ({ frames := 1, cells := 1, slots := 24, locals := 12 }) D [(cI, .int), (cL, .long)] [.ref h] [(h, .inr (2, [.null, .int 0]))] (fun u => [(h, .inr (2, [.ref (u 0), .int (0 : Int32)])), ((u 0), .inl (cI, 24, .inl (fun _ => 0)))]) 1 24 := by
  intro sz
  refine Met.ofW (cc := cX2_init) (maxL := 1) (ret := none) (by decide) rfl ?_
  intro p e s m args below meth c s₁ B hml hv
  obtain ⟨rfl, hsz, hP, hK, hD0, hN⟩ := hv
  have hx := B.exec
  have hb := B.bytes
  have hr := B.returns
  have hts := atoms_spec (ws := wsX2_init) B.pre
  have hown : s.vm.findClass RX2 = some m.cls := findClass_of_methodNamed B.named
  have hlocks := B.notSynchronized
  have hin : meth.name = "<init>" := (name_of_methodNamed B.named B.method).1
  subst hsz
  have hD := hD0.self (sz := s.heap.size)
  generalize hAe : va_A [(h, .inr (2, [.null, .int 0]))] s.heap.size = A at hD ⊢
  have hA : ∀ q : Nat, s.heap.size ≤ q → A q := fun q h => by rw [← hAe]; exact Or.inr h
  have hS : va_S A s.heap s.heap [] := va_S.rf
  have hl := lv_entry ([.ref h]) (n := 1) (Nat.le_of_ble_eq_true rfl)
  rw [lg_entry_eq]
  generalize (lg_sl ([.ref h]) ++ List.replicate (1 - (lg_sl ([.ref h])).length) Slot.unset).toArray = ls at hl ⊢
  have hl : lv_has ls 1 [(0, .ref h)] := hl
  refine lv_aload_n hx hb dX2_init_0 rfl (lv_at hl 0 rfl) ?_
  refine W.objInit hx hb hown (hts (.methodLink RX2 3 objectInit) (by decide +kernel)) (hts (.instanceMethod objectInit) (by decide +kernel)) (hts _ (List.mem_cons_of_mem _ (List.mem_append_left _ (List.mem_of_getElem? (i := 2) rfl)))) rfl (by rw [hml]; exact hl.1) rfl dX2_init_1 (Nat.le_of_ble_eq_true rfl) (Nat.le_of_ble_eq_true rfl) ?_
  refine W.eq (g2 := F0 m 4 ls []) rfl ?_
  refine lv_aload_n hx hb dX2_init_4 rfl (lv_at hl 0 rfl) ?_
  refine lv_bipush (v := 24) hx hb dX2_init_5 (by decide) ?_
  refine jx_newI (N := 24) hx hb (hts (.arrayClass .int) (by decide +kernel)) hK hP hD hS hA (by decide) (by decide) (by decide) (Nat.le_of_ble_eq_true rfl) (Nat.le_of_ble_eq_true rfl) dX2_init_7 (fun q7 H hP hD hS => ?_)
  have hP : va_P D vwCl [(h, .inr (2, [.null, .int 0])), (q7, .inl (cI, 24, .inl (fun _ => 0)))] H := hP
  have hD : va_D A [(h, .inr (2, [.null, .int 0])), (q7, .inl (cI, 24, .inl (fun _ => 0)))] := hD
  refine va_putF (D := D) (ci := 2) (v := .ref q7) (ty := .array .int) (C := RX2) (T := TX2) (N := 2) hx hb hts iw_X2_init_X2 tyX2 tyX2_ok nmX2 hown hK hP hD hS 0 rfl rfl 0 (by decide) (hts (.fieldLink RX2 9 "PassedDuties$Page" "codes" "[I") (by decide +kernel)) (fun _ h9 => h9) rfl hin rfl (by decide +kernel) rfl rfl (Nat.le_of_ble_eq_true rfl) dX2_init_9 (fun H locs hP hD hS => ?_)
  have hP : va_P D vwCl [(h, .inr (2, [.ref q7, .int 0])), (q7, .inl (cI, 24, .inl (fun _ => 0)))] H := hP
  have hD : va_D A [(h, .inr (2, [.ref q7, .int 0])), (q7, .inl (cI, 24, .inl (fun _ => 0)))] := hD
  refine lv_aload_n hx hb dX2_init_12 rfl (lv_at hl 0 rfl) ?_
  refine lv_iconst (v := 0) hx hb dX2_init_13 (by decide) ?_
  refine va_put (D := D) (ci := 2) (v := .int (0 : Int32)) (ty := .int) (C := RX2) (T := TX2) (N := 2) hx hb hts iw_X2_init_X2 tyX2 tyX2_ok nmX2 hown hK hP hD hS 0 rfl rfl 1 (by decide) (hts (.fieldLink RX2 15 "PassedDuties$Page" "length" "I") (by decide +kernel)) (fun _ h9 => h9) rfl (by decide +kernel) rfl rfl (Nat.le_of_ble_eq_true rfl) dX2_init_14 (fun H locs hP hD hS => ?_)
  have hP : va_P D vwCl [(h, .inr (2, [.ref q7, .int (0 : Int32)])), (q7, .inl (cI, 24, .inl (fun _ => 0)))] H := hP
  have hD : va_D A [(h, .inr (2, [.ref q7, .int (0 : Int32)])), (q7, .inl (cI, 24, .inl (fun _ => 0)))] := hD
  exact jx_retc (fun k => ([q7] : List Nat).getD k 0) hx hb hr hlocks hK hP hD hS dX2_init_17
theorem iw_X0_init_X0 : ∀ w ∈ wsX00, w ∈ wsX0_init := by decide +kernel
set_option maxHeartbeats 4000000 in
set_option maxRecDepth 100000 in
theorem k_X0_init (l : Launch) (D : va_G) (h : Nat) (cI cL : ClassId) : jMc l yX0_init wsX0_init ({ frames := 1, cells := 1, slots := 8, locals := 12 }) D [(cI, .int), (cL, .long)] [.ref h] [(h, .inr (0, [.null, .int 0]))] (fun u => [(h, .inr (0, [.ref (u 0), .int (0 : Int32)])), ((u 0), .inl (cL, 8, .inr (.inl (fun _ => 0))))]) 1 8 := by
  intro sz
  refine Met.ofW (cc := cX0_init) (maxL := 1) (ret := none) (by decide) rfl ?_
  intro p e s m args below meth c s₁ B hml hv
  obtain ⟨rfl, hsz, hP, hK, hD0, hN⟩ := hv
  have hx := B.exec
  have hb := B.bytes
  have hr := B.returns
  have hts := atoms_spec (ws := wsX0_init) B.pre
  have hown : s.vm.findClass RX0 = some m.cls := findClass_of_methodNamed B.named
  have hlocks := B.notSynchronized
  have hin : meth.name = "<init>" := (name_of_methodNamed B.named B.method).1
  subst hsz
  have hD := hD0.self (sz := s.heap.size)
  generalize hAe : va_A [(h, .inr (0, [.null, .int 0]))] s.heap.size = A at hD ⊢
  have hA : ∀ q : Nat, s.heap.size ≤ q → A q := fun q h => by rw [← hAe]; exact Or.inr h
  have hS : va_S A s.heap s.heap [] := va_S.rf
  have hl := lv_entry ([.ref h]) (n := 1) (Nat.le_of_ble_eq_true rfl)
  rw [lg_entry_eq]
  generalize (lg_sl ([.ref h]) ++ List.replicate (1 - (lg_sl ([.ref h])).length) Slot.unset).toArray = ls at hl ⊢
  have hl : lv_has ls 1 [(0, .ref h)] := hl
  refine lv_aload_n hx hb dX0_init_0 rfl (lv_at hl 0 rfl) ?_
  refine W.objInit hx hb hown (hts (.methodLink RX0 3 objectInit) (by decide +kernel)) (hts (.instanceMethod objectInit) (by decide +kernel)) (hts _ (List.mem_cons_of_mem _ (List.mem_append_left _ (List.mem_of_getElem? (i := 2) rfl)))) rfl (by rw [hml]; exact hl.1) rfl dX0_init_1 (Nat.le_of_ble_eq_true rfl) (Nat.le_of_ble_eq_true rfl) ?_
  refine W.eq (g2 := F0 m 4 ls []) rfl ?_
  refine lv_aload_n hx hb dX0_init_4 rfl (lv_at hl 0 rfl) ?_
  refine lv_bipush (v := 8) hx hb dX0_init_5 (by decide) ?_
  refine jx_newJ (N := 8) hx hb (hts (.arrayClass .long) (by decide +kernel)) hK hP hD hS hA (by decide) (by decide) (by decide) (Nat.le_of_ble_eq_true rfl) (Nat.le_of_ble_eq_true rfl) dX0_init_7 (fun q7 H hP hD hS => ?_)
  have hP : va_P D vwCl [(h, .inr (0, [.null, .int 0])), (q7, .inl (cL, 8, .inr (.inl (fun _ => 0))))] H := hP
  have hD : va_D A [(h, .inr (0, [.null, .int 0])), (q7, .inl (cL, 8, .inr (.inl (fun _ => 0))))] := hD
  refine va_putF (D := D) (ci := 0) (v := .ref q7) (ty := .array .long) (C := RX0) (T := TX0) (N := 2) hx hb hts iw_X0_init_X0 tyX0 tyX0_ok nmX0 hown hK hP hD hS 0 rfl rfl 0 (by decide) (hts (.fieldLink RX0 9 "PassedDuties$Book" "rows" "[J") (by decide +kernel)) (fun _ h9 => h9) rfl hin rfl (by decide +kernel) rfl rfl (Nat.le_of_ble_eq_true rfl) dX0_init_9 (fun H locs hP hD hS => ?_)
  have hP : va_P D vwCl [(h, .inr (0, [.ref q7, .int 0])), (q7, .inl (cL, 8, .inr (.inl (fun _ => 0))))] H := hP
  have hD : va_D A [(h, .inr (0, [.ref q7, .int 0])), (q7, .inl (cL, 8, .inr (.inl (fun _ => 0))))] := hD
  refine lv_aload_n hx hb dX0_init_12 rfl (lv_at hl 0 rfl) ?_
  refine lv_iconst (v := 0) hx hb dX0_init_13 (by decide) ?_
  refine va_put (D := D) (ci := 0) (v := .int (0 : Int32)) (ty := .int) (C := RX0) (T := TX0) (N := 2) hx hb hts iw_X0_init_X0 tyX0 tyX0_ok nmX0 hown hK hP hD hS 0 rfl rfl 1 (by decide) (hts (.fieldLink RX0 15 "PassedDuties$Book" "size" "I") (by decide +kernel)) (fun _ h9 => h9) rfl (by decide +kernel) rfl rfl (Nat.le_of_ble_eq_true rfl) dX0_init_14 (fun H locs hP hD hS => ?_)
  have hP : va_P D vwCl [(h, .inr (0, [.ref q7, .int (0 : Int32)])), (q7, .inl (cL, 8, .inr (.inl (fun _ => 0))))] H := hP
  have hD : va_D A [(h, .inr (0, [.ref q7, .int (0 : Int32)])), (q7, .inl (cL, 8, .inr (.inl (fun _ => 0))))] := hD
  exact jx_retc (fun k => ([q7] : List Nat).getD k 0) hx hb hr hlocks hK hP hD hS dX0_init_17
theorem iw_X3_init_X3 : ∀ w ∈ wsX30, w ∈ wsX3_init := by decide +kernel
set_option maxHeartbeats 4000000 in
set_option maxRecDepth 100000 in
theorem k_X3_init (l : Launch) (D : va_G) (h : Nat) (cI cL : ClassId) : jMc l yX3_init wsX3_init ({ frames := 1, cells := 5, slots := 152, locals := 23 }) D [(cI, .int), (cL, .long)] [.ref h] [(h, .inr (3, [.null, .null, .null, .null, .null, .int 0, .int 0, .int 0]))] (fun u => [(h, .inr (3, [.ref (u 0), .ref (u 1), .ref (u 2), .ref (u 3), .ref (u 4), .int (0 : Int32), .int (0 : Int32), .int (0 : Int32)])), ((u 0), .inl (cI, 8, .inl (fun _ => 0))), ((u 1), .inl (cL, 8, .inr (.inl (fun _ => 0)))), ((u 2), .inl (cI, 64, .inl jx_fillv)), ((u 3), .inl (cL, 64, .inr (.inl (fun _ => 0)))), ((u 4), .inl (cL, 8, .inr (.inl (fun _ => 0))))]) 5 152 := by
  intro sz
  refine Met.ofW (cc := cX3_init) (maxL := 1) (ret := none) (by decide) rfl ?_
  intro p e s m args below meth c s₁ B hml hv
  obtain ⟨rfl, hsz, hP, hK, hD0, hN⟩ := hv
  have hx := B.exec
  have hb := B.bytes
  have hr := B.returns
  have hts := atoms_spec (ws := wsX3_init) B.pre
  have hown : s.vm.findClass RX3 = some m.cls := findClass_of_methodNamed B.named
  have hlocks := B.notSynchronized
  have hin : meth.name = "<init>" := (name_of_methodNamed B.named B.method).1
  subst hsz
  have hD := hD0.self (sz := s.heap.size)
  generalize hAe : va_A [(h, .inr (3, [.null, .null, .null, .null, .null, .int 0, .int 0, .int 0]))] s.heap.size = A at hD ⊢
  have hA : ∀ q : Nat, s.heap.size ≤ q → A q := fun q h => by rw [← hAe]; exact Or.inr h
  have hS : va_S A s.heap s.heap [] := va_S.rf
  have hl := lv_entry ([.ref h]) (n := 1) (Nat.le_of_ble_eq_true rfl)
  rw [lg_entry_eq]
  generalize (lg_sl ([.ref h]) ++ List.replicate (1 - (lg_sl ([.ref h])).length) Slot.unset).toArray = ls at hl ⊢
  have hl : lv_has ls 1 [(0, .ref h)] := hl
  refine lv_aload_n hx hb dX3_init_0 rfl (lv_at hl 0 rfl) ?_
  refine W.objInit hx hb hown (hts (.methodLink RX3 3 objectInit) (by decide +kernel)) (hts (.instanceMethod objectInit) (by decide +kernel)) (hts _ (List.mem_cons_of_mem _ (List.mem_append_left _ (List.mem_of_getElem? (i := 2) rfl)))) rfl (by rw [hml]; exact hl.1) rfl dX3_init_1 (Nat.le_of_ble_eq_true rfl) (Nat.le_of_ble_eq_true rfl) ?_
  refine W.eq (g2 := F0 m 4 ls []) rfl ?_
  refine lv_aload_n hx hb dX3_init_4 rfl (lv_at hl 0 rfl) ?_
  refine lv_bipush (v := 8) hx hb dX3_init_5 (by decide) ?_
  refine jx_newI (N := 8) hx hb (hts (.arrayClass .int) (by decide +kernel)) hK hP hD hS hA (by decide) (by decide) (by decide) (Nat.le_of_ble_eq_true rfl) (Nat.le_of_ble_eq_true rfl) dX3_init_7 (fun q7 H hP hD hS => ?_)
  have hP : va_P D vwCl [(h, .inr (3, [.null, .null, .null, .null, .null, .int 0, .int 0, .int 0])), (q7, .inl (cI, 8, .inl (fun _ => 0)))] H := hP
  have hD : va_D A [(h, .inr (3, [.null, .null, .null, .null, .null, .int 0, .int 0, .int 0])), (q7, .inl (cI, 8, .inl (fun _ => 0)))] := hD
  refine va_putF (D := D) (ci := 3) (v := .ref q7) (ty := .array .int) (C := RX3) (T := TX3) (N := 8) hx hb hts iw_X3_init_X3 tyX3 tyX3_ok nmX3 hown hK hP hD hS 0 rfl rfl 0 (by decide) (hts (.fieldLink RX3 9 "PassedDuties$Parts" "under" "[I") (by decide +kernel)) (fun _ h9 => h9) rfl hin rfl (by decide +kernel) rfl rfl (Nat.le_of_ble_eq_true rfl) dX3_init_9 (fun H locs hP hD hS => ?_)
  have hP : va_P D vwCl [(h, .inr (3, [.ref q7, .null, .null, .null, .null, .int 0, .int 0, .int 0])), (q7, .inl (cI, 8, .inl (fun _ => 0)))] H := hP
  have hD : va_D A [(h, .inr (3, [.ref q7, .null, .null, .null, .null, .int 0, .int 0, .int 0])), (q7, .inl (cI, 8, .inl (fun _ => 0)))] := hD
  refine lv_aload_n hx hb dX3_init_12 rfl (lv_at hl 0 rfl) ?_
  refine lv_bipush (v := 8) hx hb dX3_init_13 (by decide) ?_
  refine jx_newJ (N := 8) hx hb (hts (.arrayClass .long) (by decide +kernel)) hK hP hD hS hA (by decide) (by decide) (by decide) (Nat.le_of_ble_eq_true rfl) (Nat.le_of_ble_eq_true rfl) dX3_init_15 (fun q15 H hP hD hS => ?_)
  have hP : va_P D vwCl [(h, .inr (3, [.ref q7, .null, .null, .null, .null, .int 0, .int 0, .int 0])), (q7, .inl (cI, 8, .inl (fun _ => 0))), (q15, .inl (cL, 8, .inr (.inl (fun _ => 0))))] H := hP
  have hD : va_D A [(h, .inr (3, [.ref q7, .null, .null, .null, .null, .int 0, .int 0, .int 0])), (q7, .inl (cI, 8, .inl (fun _ => 0))), (q15, .inl (cL, 8, .inr (.inl (fun _ => 0))))] := hD
  refine va_putF (D := D) (ci := 3) (v := .ref q15) (ty := .array .long) (C := RX3) (T := TX3) (N := 8) hx hb hts iw_X3_init_X3 tyX3 tyX3_ok nmX3 hown hK hP hD hS 0 rfl rfl 1 (by decide) (hts (.fieldLink RX3 15 "PassedDuties$Parts" "own" "[J") (by decide +kernel)) (fun _ h9 => h9) rfl hin rfl (by decide +kernel) rfl rfl (Nat.le_of_ble_eq_true rfl) dX3_init_17 (fun H locs hP hD hS => ?_)
  have hP : va_P D vwCl [(h, .inr (3, [.ref q7, .ref q15, .null, .null, .null, .int 0, .int 0, .int 0])), (q7, .inl (cI, 8, .inl (fun _ => 0))), (q15, .inl (cL, 8, .inr (.inl (fun _ => 0))))] H := hP
  have hD : va_D A [(h, .inr (3, [.ref q7, .ref q15, .null, .null, .null, .int 0, .int 0, .int 0])), (q7, .inl (cI, 8, .inl (fun _ => 0))), (q15, .inl (cL, 8, .inr (.inl (fun _ => 0))))] := hD
  refine lv_aload_n hx hb dX3_init_20 rfl (lv_at hl 0 rfl) ?_
  refine lv_bipush (v := 64) hx hb dX3_init_21 (by decide) ?_
  refine jx_newI (N := 64) hx hb (hts (.arrayClass .int) (by decide +kernel)) hK hP hD hS hA (by decide) (by decide) (by decide) (Nat.le_of_ble_eq_true rfl) (Nat.le_of_ble_eq_true rfl) dX3_init_23 (fun q23 H hP hD hS => ?_)
  have hP : va_P D vwCl [(h, .inr (3, [.ref q7, .ref q15, .null, .null, .null, .int 0, .int 0, .int 0])), (q7, .inl (cI, 8, .inl (fun _ => 0))), (q15, .inl (cL, 8, .inr (.inl (fun _ => 0)))), (q23, .inl (cI, 64, .inl (fun _ => 0)))] H := hP
  have hD : va_D A [(h, .inr (3, [.ref q7, .ref q15, .null, .null, .null, .int 0, .int 0, .int 0])), (q7, .inl (cI, 8, .inl (fun _ => 0))), (q15, .inl (cL, 8, .inr (.inl (fun _ => 0)))), (q23, .inl (cI, 64, .inl (fun _ => 0)))] := hD
  refine va_putF (D := D) (ci := 3) (v := .ref q23) (ty := .array .int) (C := RX3) (T := TX3) (N := 8) hx hb hts iw_X3_init_X3 tyX3 tyX3_ok nmX3 hown hK hP hD hS 0 rfl rfl 2 (by decide) (hts (.fieldLink RX3 19 "PassedDuties$Parts" "kinds" "[I") (by decide +kernel)) (fun _ h9 => h9) rfl hin rfl (by decide +kernel) rfl rfl (Nat.le_of_ble_eq_true rfl) dX3_init_25 (fun H locs hP hD hS => ?_)
  have hP : va_P D vwCl [(h, .inr (3, [.ref q7, .ref q15, .ref q23, .null, .null, .int 0, .int 0, .int 0])), (q7, .inl (cI, 8, .inl (fun _ => 0))), (q15, .inl (cL, 8, .inr (.inl (fun _ => 0)))), (q23, .inl (cI, 64, .inl (fun _ => 0)))] H := hP
  have hD : va_D A [(h, .inr (3, [.ref q7, .ref q15, .ref q23, .null, .null, .int 0, .int 0, .int 0])), (q7, .inl (cI, 8, .inl (fun _ => 0))), (q15, .inl (cL, 8, .inr (.inl (fun _ => 0)))), (q23, .inl (cI, 64, .inl (fun _ => 0)))] := hD
  refine lv_aload_n hx hb dX3_init_28 rfl (lv_at hl 0 rfl) ?_
  refine lv_bipush (v := 64) hx hb dX3_init_29 (by decide) ?_
  refine jx_newJ (N := 64) hx hb (hts (.arrayClass .long) (by decide +kernel)) hK hP hD hS hA (by decide) (by decide) (by decide) (Nat.le_of_ble_eq_true rfl) (Nat.le_of_ble_eq_true rfl) dX3_init_31 (fun q31 H hP hD hS => ?_)
  have hP : va_P D vwCl [(h, .inr (3, [.ref q7, .ref q15, .ref q23, .null, .null, .int 0, .int 0, .int 0])), (q7, .inl (cI, 8, .inl (fun _ => 0))), (q15, .inl (cL, 8, .inr (.inl (fun _ => 0)))), (q23, .inl (cI, 64, .inl (fun _ => 0))), (q31, .inl (cL, 64, .inr (.inl (fun _ => 0))))] H := hP
  have hD : va_D A [(h, .inr (3, [.ref q7, .ref q15, .ref q23, .null, .null, .int 0, .int 0, .int 0])), (q7, .inl (cI, 8, .inl (fun _ => 0))), (q15, .inl (cL, 8, .inr (.inl (fun _ => 0)))), (q23, .inl (cI, 64, .inl (fun _ => 0))), (q31, .inl (cL, 64, .inr (.inl (fun _ => 0))))] := hD
  refine va_putF (D := D) (ci := 3) (v := .ref q31) (ty := .array .long) (C := RX3) (T := TX3) (N := 8) hx hb hts iw_X3_init_X3 tyX3 tyX3_ok nmX3 hown hK hP hD hS 0 rfl rfl 3 (by decide) (hts (.fieldLink RX3 22 "PassedDuties$Parts" "through" "[J") (by decide +kernel)) (fun _ h9 => h9) rfl hin rfl (by decide +kernel) rfl rfl (Nat.le_of_ble_eq_true rfl) dX3_init_33 (fun H locs hP hD hS => ?_)
  have hP : va_P D vwCl [(h, .inr (3, [.ref q7, .ref q15, .ref q23, .ref q31, .null, .int 0, .int 0, .int 0])), (q7, .inl (cI, 8, .inl (fun _ => 0))), (q15, .inl (cL, 8, .inr (.inl (fun _ => 0)))), (q23, .inl (cI, 64, .inl (fun _ => 0))), (q31, .inl (cL, 64, .inr (.inl (fun _ => 0))))] H := hP
  have hD : va_D A [(h, .inr (3, [.ref q7, .ref q15, .ref q23, .ref q31, .null, .int 0, .int 0, .int 0])), (q7, .inl (cI, 8, .inl (fun _ => 0))), (q15, .inl (cL, 8, .inr (.inl (fun _ => 0)))), (q23, .inl (cI, 64, .inl (fun _ => 0))), (q31, .inl (cL, 64, .inr (.inl (fun _ => 0))))] := hD
  refine lv_aload_n hx hb dX3_init_36 rfl (lv_at hl 0 rfl) ?_
  refine lv_bipush (v := 8) hx hb dX3_init_37 (by decide) ?_
  refine jx_newJ (N := 8) hx hb (hts (.arrayClass .long) (by decide +kernel)) hK hP hD hS hA (by decide) (by decide) (by decide) (Nat.le_of_ble_eq_true rfl) (Nat.le_of_ble_eq_true rfl) dX3_init_39 (fun q39 H hP hD hS => ?_)
  have hP : va_P D vwCl [(h, .inr (3, [.ref q7, .ref q15, .ref q23, .ref q31, .null, .int 0, .int 0, .int 0])), (q7, .inl (cI, 8, .inl (fun _ => 0))), (q15, .inl (cL, 8, .inr (.inl (fun _ => 0)))), (q23, .inl (cI, 64, .inl (fun _ => 0))), (q31, .inl (cL, 64, .inr (.inl (fun _ => 0)))), (q39, .inl (cL, 8, .inr (.inl (fun _ => 0))))] H := hP
  have hD : va_D A [(h, .inr (3, [.ref q7, .ref q15, .ref q23, .ref q31, .null, .int 0, .int 0, .int 0])), (q7, .inl (cI, 8, .inl (fun _ => 0))), (q15, .inl (cL, 8, .inr (.inl (fun _ => 0)))), (q23, .inl (cI, 64, .inl (fun _ => 0))), (q31, .inl (cL, 64, .inr (.inl (fun _ => 0)))), (q39, .inl (cL, 8, .inr (.inl (fun _ => 0))))] := hD
  refine va_putF (D := D) (ci := 3) (v := .ref q39) (ty := .array .long) (C := RX3) (T := TX3) (N := 8) hx hb hts iw_X3_init_X3 tyX3 tyX3_ok nmX3 hown hK hP hD hS 0 rfl rfl 4 (by decide) (hts (.fieldLink RX3 25 "PassedDuties$Parts" "come" "[J") (by decide +kernel)) (fun _ h9 => h9) rfl hin rfl (by decide +kernel) rfl rfl (Nat.le_of_ble_eq_true rfl) dX3_init_41 (fun H locs hP hD hS => ?_)
  have hP : va_P D vwCl [(h, .inr (3, [.ref q7, .ref q15, .ref q23, .ref q31, .ref q39, .int 0, .int 0, .int 0])), (q7, .inl (cI, 8, .inl (fun _ => 0))), (q15, .inl (cL, 8, .inr (.inl (fun _ => 0)))), (q23, .inl (cI, 64, .inl (fun _ => 0))), (q31, .inl (cL, 64, .inr (.inl (fun _ => 0)))), (q39, .inl (cL, 8, .inr (.inl (fun _ => 0))))] H := hP
  have hD : va_D A [(h, .inr (3, [.ref q7, .ref q15, .ref q23, .ref q31, .ref q39, .int 0, .int 0, .int 0])), (q7, .inl (cI, 8, .inl (fun _ => 0))), (q15, .inl (cL, 8, .inr (.inl (fun _ => 0)))), (q23, .inl (cI, 64, .inl (fun _ => 0))), (q31, .inl (cL, 64, .inr (.inl (fun _ => 0)))), (q39, .inl (cL, 8, .inr (.inl (fun _ => 0))))] := hD
  refine lv_aload_n hx hb dX3_init_44 rfl (lv_at hl 0 rfl) ?_
  refine lv_iconst (v := 0) hx hb dX3_init_45 (by decide) ?_
  refine va_put (D := D) (ci := 3) (v := .int (0 : Int32)) (ty := .int) (C := RX3) (T := TX3) (N := 8) hx hb hts iw_X3_init_X3 tyX3 tyX3_ok nmX3 hown hK hP hD hS 0 rfl rfl 5 (by decide) (hts (.fieldLink RX3 28 "PassedDuties$Parts" "there" "I") (by decide +kernel)) (fun _ h9 => h9) rfl (by decide +kernel) rfl rfl (Nat.le_of_ble_eq_true rfl) dX3_init_46 (fun H locs hP hD hS => ?_)
  have hP : va_P D vwCl [(h, .inr (3, [.ref q7, .ref q15, .ref q23, .ref q31, .ref q39, .int (0 : Int32), .int 0, .int 0])), (q7, .inl (cI, 8, .inl (fun _ => 0))), (q15, .inl (cL, 8, .inr (.inl (fun _ => 0)))), (q23, .inl (cI, 64, .inl (fun _ => 0))), (q31, .inl (cL, 64, .inr (.inl (fun _ => 0)))), (q39, .inl (cL, 8, .inr (.inl (fun _ => 0))))] H := hP
  have hD : va_D A [(h, .inr (3, [.ref q7, .ref q15, .ref q23, .ref q31, .ref q39, .int (0 : Int32), .int 0, .int 0])), (q7, .inl (cI, 8, .inl (fun _ => 0))), (q15, .inl (cL, 8, .inr (.inl (fun _ => 0)))), (q23, .inl (cI, 64, .inl (fun _ => 0))), (q31, .inl (cL, 64, .inr (.inl (fun _ => 0)))), (q39, .inl (cL, 8, .inr (.inl (fun _ => 0))))] := hD
  refine lv_aload_n hx hb dX3_init_49 rfl (lv_at hl 0 rfl) ?_
  refine lv_iconst (v := 0) hx hb dX3_init_50 (by decide) ?_
  refine va_put (D := D) (ci := 3) (v := .int (0 : Int32)) (ty := .int) (C := RX3) (T := TX3) (N := 8) hx hb hts iw_X3_init_X3 tyX3 tyX3_ok nmX3 hown hK hP hD hS 0 rfl rfl 6 (by decide) (hts (.fieldLink RX3 32 "PassedDuties$Parts" "timesLeft" "I") (by decide +kernel)) (fun _ h9 => h9) rfl (by decide +kernel) rfl rfl (Nat.le_of_ble_eq_true rfl) dX3_init_51 (fun H locs hP hD hS => ?_)
  have hP : va_P D vwCl [(h, .inr (3, [.ref q7, .ref q15, .ref q23, .ref q31, .ref q39, .int (0 : Int32), .int (0 : Int32), .int 0])), (q7, .inl (cI, 8, .inl (fun _ => 0))), (q15, .inl (cL, 8, .inr (.inl (fun _ => 0)))), (q23, .inl (cI, 64, .inl (fun _ => 0))), (q31, .inl (cL, 64, .inr (.inl (fun _ => 0)))), (q39, .inl (cL, 8, .inr (.inl (fun _ => 0))))] H := hP
  have hD : va_D A [(h, .inr (3, [.ref q7, .ref q15, .ref q23, .ref q31, .ref q39, .int (0 : Int32), .int (0 : Int32), .int 0])), (q7, .inl (cI, 8, .inl (fun _ => 0))), (q15, .inl (cL, 8, .inr (.inl (fun _ => 0)))), (q23, .inl (cI, 64, .inl (fun _ => 0))), (q31, .inl (cL, 64, .inr (.inl (fun _ => 0)))), (q39, .inl (cL, 8, .inr (.inl (fun _ => 0))))] := hD
  refine lv_aload_n hx hb dX3_init_54 rfl (lv_at hl 0 rfl) ?_
  refine lv_iconst (v := 0) hx hb dX3_init_55 (by decide) ?_
  refine va_put (D := D) (ci := 3) (v := .int (0 : Int32)) (ty := .int) (C := RX3) (T := TX3) (N := 8) hx hb hts iw_X3_init_X3 tyX3 tyX3_ok nmX3 hown hK hP hD hS 0 rfl rfl 7 (by decide) (hts (.fieldLink RX3 35 "PassedDuties$Parts" "changes" "I") (by decide +kernel)) (fun _ h9 => h9) rfl (by decide +kernel) rfl rfl (Nat.le_of_ble_eq_true rfl) dX3_init_56 (fun H locs hP hD hS => ?_)
  have hP : va_P D vwCl [(h, .inr (3, [.ref q7, .ref q15, .ref q23, .ref q31, .ref q39, .int (0 : Int32), .int (0 : Int32), .int (0 : Int32)])), (q7, .inl (cI, 8, .inl (fun _ => 0))), (q15, .inl (cL, 8, .inr (.inl (fun _ => 0)))), (q23, .inl (cI, 64, .inl (fun _ => 0))), (q31, .inl (cL, 64, .inr (.inl (fun _ => 0)))), (q39, .inl (cL, 8, .inr (.inl (fun _ => 0))))] H := hP
  have hD : va_D A [(h, .inr (3, [.ref q7, .ref q15, .ref q23, .ref q31, .ref q39, .int (0 : Int32), .int (0 : Int32), .int (0 : Int32)])), (q7, .inl (cI, 8, .inl (fun _ => 0))), (q15, .inl (cL, 8, .inr (.inl (fun _ => 0)))), (q23, .inl (cI, 64, .inl (fun _ => 0))), (q31, .inl (cL, 64, .inr (.inl (fun _ => 0)))), (q39, .inl (cL, 8, .inr (.inl (fun _ => 0))))] := hD
  refine lv_aload_n hx hb dX3_init_59 rfl (lv_at hl 0 rfl) ?_
  refine va_get (D := D) (ci := 3) (v := .ref q23) (C := RX3) (T := TX3) (N := 8) hx hb hts iw_X3_init_X3 hown hK hP 0 rfl rfl 2 (by decide) (hts (.fieldLink RX3 19 "PassedDuties$Parts" "kinds" "[I") (by decide +kernel)) (fun _ h9 => h9) rfl dX3_init_60 ?_
  refine lv_iconst (v := -1) hx hb dX3_init_63 (by decide) ?_
  refine jx_kv (wr := [(h, .inr (3, [.ref q7, .ref q15, .ref q23, .ref q31, .ref q39, .int (0 : Int32), .int (0 : Int32), .int (0 : Int32)])), (q7, .inl (cI, 8, .inl (fun _ => 0))), (q15, .inl (cL, 8, .inr (.inl (fun _ => 0)))), (q31, .inl (cL, 64, .inr (.inl (fun _ => 0)))), (q39, .inl (cL, 8, .inr (.inl (fun _ => 0))))]) (ws2 := [(h, .inr (3, [.ref q7, .ref q15, .ref q23, .ref q31, .ref q39, .int (0 : Int32), .int (0 : Int32), .int (0 : Int32)])), (q7, .inl (cI, 8, .inl (fun _ => 0))), (q15, .inl (cL, 8, .inr (.inl (fun _ => 0)))), (q23, .inl (cI, 64, .inl jx_fillv)), (q31, .inl (cL, 64, .inr (.inl (fun _ => 0)))), (q39, .inl (cL, 8, .inr (.inl (fun _ => 0))))]) (jx_runS (As := [.ref q23, .int (-1 : Int32)]) (rest := []) ⟨hx, hb, hml, hown, hts⟩ (c_J7_fill_53178 l D (fun _ => 0) q23 cI cL (fun _ => 0) (-1 : Int32) jx_fillv jx_fill_eq _) (va_cwS 2 hts gX3_init_J7_fill_53178 rfl rfl rfl (by decide +kernel) ⟨Nat.le_of_ble_eq_true rfl, Nat.le_of_ble_eq_true rfl⟩) hK hN hP hD [3] rfl (by decide) rfl hl.1 rfl (Nat.le_of_ble_eq_true rfl) dX3_init_64 ⟨Nat.le_of_ble_eq_true rfl, Nat.le_of_ble_eq_true rfl⟩) hP hD hS hA [3] [0, 1, 2, 4, 5] [0, 1, 2, 5, 3, 4] rfl rfl (by decide) (by decide) rfl (by decide) (fun H locs hP hD hS => ?_)
  exact jx_retc (fun k => ([q7, q15, q23, q31, q39] : List Nat).getD k 0) hx hb hr hlocks hK hP hD hS dX3_init_67
theorem iw_X5_init_X5 : ∀ w ∈ wsX50, w ∈ wsX5_init := by decide +kernel
set_option maxHeartbeats 4000000 in
set_option maxRecDepth 100000 in
theorem k_X5_init (l : Launch) (D : va_G) (h : Nat) (cI cL : ClassId) (g : Nat) : jMc l yX5_init wsX5_init ({ frames := 1, cells := 1, slots := 8, locals := 12 }) D [(cI, .int), (cL, .long)] [.ref h, .ref g] [(h, .inr (4, [.null, .null]))] (fun u => [(h, .inr (4, [.ref g, .ref (u 0)])), ((u 0), .inl (cI, 8, .inl (fun _ => 0)))]) 1 8 := by
  intro sz
  refine Met.ofW (cc := cX5_init) (maxL := 2) (ret := none) (by decide) rfl ?_
  intro p e s m args below meth c s₁ B hml hv
  obtain ⟨rfl, hsz, hP, hK, hD0, hN⟩ := hv
  have hx := B.exec
  have hb := B.bytes
  have hr := B.returns
  have hts := atoms_spec (ws := wsX5_init) B.pre
  have hown : s.vm.findClass RX5 = some m.cls := findClass_of_methodNamed B.named
  have hlocks := B.notSynchronized
  have hin : meth.name = "<init>" := (name_of_methodNamed B.named B.method).1
  subst hsz
  have hD := hD0.self (sz := s.heap.size)
  generalize hAe : va_A [(h, .inr (4, [.null, .null]))] s.heap.size = A at hD ⊢
  have hA : ∀ q : Nat, s.heap.size ≤ q → A q := fun q h => by rw [← hAe]; exact Or.inr h
  have hS : va_S A s.heap s.heap [] := va_S.rf
  have hl := lv_entry ([.ref h, .ref g]) (n := 2) (Nat.le_of_ble_eq_true rfl)
  rw [lg_entry_eq]
  generalize (lg_sl ([.ref h, .ref g]) ++ List.replicate (2 - (lg_sl ([.ref h, .ref g])).length) Slot.unset).toArray = ls at hl ⊢
  have hl : lv_has ls 2 [(0, .ref h), (1, .ref g)] := hl
  refine lv_aload_n hx hb dX5_init_0 rfl (lv_at hl 0 rfl) ?_
  refine W.objInit hx hb hown (hts (.methodLink RX5 3 objectInit) (by decide +kernel)) (hts (.instanceMethod objectInit) (by decide +kernel)) (hts _ (List.mem_cons_of_mem _ (List.mem_append_left _ (List.mem_of_getElem? (i := 2) rfl)))) rfl (by rw [hml]; exact hl.1) rfl dX5_init_1 (Nat.le_of_ble_eq_true rfl) (Nat.le_of_ble_eq_true rfl) ?_
  refine W.eq (g2 := F0 m 4 ls []) rfl ?_
  refine lv_aload_n hx hb dX5_init_4 rfl (lv_at hl 0 rfl) ?_
  refine lv_bipush (v := 8) hx hb dX5_init_5 (by decide) ?_
  refine jx_newI (N := 8) hx hb (hts (.arrayClass .int) (by decide +kernel)) hK hP hD hS hA (by decide) (by decide) (by decide) (Nat.le_of_ble_eq_true rfl) (Nat.le_of_ble_eq_true rfl) dX5_init_7 (fun q7 H hP hD hS => ?_)
  have hP : va_P D vwCl [(h, .inr (4, [.null, .null])), (q7, .inl (cI, 8, .inl (fun _ => 0)))] H := hP
  have hD : va_D A [(h, .inr (4, [.null, .null])), (q7, .inl (cI, 8, .inl (fun _ => 0)))] := hD
  refine va_putF (D := D) (ci := 4) (v := .ref q7) (ty := .array .int) (C := RX5) (T := TX5) (N := 2) hx hb hts iw_X5_init_X5 tyX5 tyX5_ok nmX5 hown hK hP hD hS 0 rfl rfl 1 (by decide) (hts (.fieldLink RX5 9 "PassedDuties$Ways" "joinsLeft" "[I") (by decide +kernel)) (fun _ h9 => h9) rfl hin rfl (by decide +kernel) rfl rfl (Nat.le_of_ble_eq_true rfl) dX5_init_9 (fun H locs hP hD hS => ?_)
  have hP : va_P D vwCl [(h, .inr (4, [.null, .ref q7])), (q7, .inl (cI, 8, .inl (fun _ => 0)))] H := hP
  have hD : va_D A [(h, .inr (4, [.null, .ref q7])), (q7, .inl (cI, 8, .inl (fun _ => 0)))] := hD
  refine lv_aload_n hx hb dX5_init_12 rfl (lv_at hl 0 rfl) ?_
  refine lv_aload_n hx hb dX5_init_13 rfl (lv_at hl 1 rfl) ?_
  refine va_putF (D := D) (ci := 4) (v := .ref g) (ty := .object "PassedDuties$Parts") (C := RX5) (T := TX5) (N := 2) hx hb hts iw_X5_init_X5 tyX5 tyX5_ok nmX5 hown hK hP hD hS 0 rfl rfl 0 (by decide) (hts (.fieldLink RX5 15 "PassedDuties$Ways" "parts" "LPassedDuties$Parts;") (by decide +kernel)) (fun _ h9 => h9) rfl hin rfl (by decide +kernel) rfl rfl (Nat.le_of_ble_eq_true rfl) dX5_init_14 (fun H locs hP hD hS => ?_)
  have hP : va_P D vwCl [(h, .inr (4, [.ref g, .ref q7])), (q7, .inl (cI, 8, .inl (fun _ => 0)))] H := hP
  have hD : va_D A [(h, .inr (4, [.ref g, .ref q7])), (q7, .inl (cI, 8, .inl (fun _ => 0)))] := hD
  exact jx_retc (fun k => ([q7] : List Nat).getD k 0) hx hb hr hlocks hK hP hD hS dX5_init_17
theorem iw_X1_init_X1 : ∀ w ∈ wsX10, w ∈ wsX1_init := by decide +kernel
set_option maxHeartbeats 4000000 in
set_option maxRecDepth 100000 in
theorem k_X1_init (l : Launch) (D : va_G) (h : Nat) (cI cL : ClassId) (g : Nat) : jMc l yX1_init wsX1_init ({ frames := 1, cells := 2, slots := 264, locals := 12 }) D [(cI, .int), (cL, .long)] [.ref h, .ref g] [(h, .inr (1, [.null, .null, .null, .int 0]))] (fun u => [(h, .inr (1, [.ref g, .ref (u 0), .ref (u 1), .int (-1 : Int32)])), ((u 0), .inl (cL, 256, .inr (.inl (fun _ => 0)))), ((u 1), .inl (cL, 8, .inr (.inl (fun _ => 0))))]) 2 264 := by
  intro sz
  refine Met.ofW (cc := cX1_init) (maxL := 2) (ret := none) (by decide) rfl ?_
  intro p e s m args below meth c s₁ B hml hv
  obtain ⟨rfl, hsz, hP, hK, hD0, hN⟩ := hv
  have hx := B.exec
  have hb := B.bytes
  have hr := B.returns
  have hts := atoms_spec (ws := wsX1_init) B.pre
  have hown : s.vm.findClass RX1 = some m.cls := findClass_of_methodNamed B.named
  have hlocks := B.notSynchronized
  have hin : meth.name = "<init>" := (name_of_methodNamed B.named B.method).1
  subst hsz
  have hD := hD0.self (sz := s.heap.size)
  generalize hAe : va_A [(h, .inr (1, [.null, .null, .null, .int 0]))] s.heap.size = A at hD ⊢
  have hA : ∀ q : Nat, s.heap.size ≤ q → A q := fun q h => by rw [← hAe]; exact Or.inr h
  have hS : va_S A s.heap s.heap [] := va_S.rf
  have hl := lv_entry ([.ref h, .ref g]) (n := 2) (Nat.le_of_ble_eq_true rfl)
  rw [lg_entry_eq]
  generalize (lg_sl ([.ref h, .ref g]) ++ List.replicate (2 - (lg_sl ([.ref h, .ref g])).length) Slot.unset).toArray = ls at hl ⊢
  have hl : lv_has ls 2 [(0, .ref h), (1, .ref g)] := hl
  refine lv_aload_n hx hb dX1_init_0 rfl (lv_at hl 0 rfl) ?_
  refine W.objInit hx hb hown (hts (.methodLink RX1 3 objectInit) (by decide +kernel)) (hts (.instanceMethod objectInit) (by decide +kernel)) (hts _ (List.mem_cons_of_mem _ (List.mem_append_left _ (List.mem_of_getElem? (i := 2) rfl)))) rfl (by rw [hml]; exact hl.1) rfl dX1_init_1 (Nat.le_of_ble_eq_true rfl) (Nat.le_of_ble_eq_true rfl) ?_
  refine W.eq (g2 := F0 m 4 ls []) rfl ?_
  refine lv_aload_n hx hb dX1_init_4 rfl (lv_at hl 0 rfl) ?_
  refine lv_sipush (v := 256) hx hb dX1_init_5 (by decide) ?_
  refine jx_newJ (N := 256) hx hb (hts (.arrayClass .long) (by decide +kernel)) hK hP hD hS hA (by decide) (by decide) (by decide) (Nat.le_of_ble_eq_true rfl) (Nat.le_of_ble_eq_true rfl) dX1_init_8 (fun q8 H hP hD hS => ?_)
  have hP : va_P D vwCl [(h, .inr (1, [.null, .null, .null, .int 0])), (q8, .inl (cL, 256, .inr (.inl (fun _ => 0))))] H := hP
  have hD : va_D A [(h, .inr (1, [.null, .null, .null, .int 0])), (q8, .inl (cL, 256, .inr (.inl (fun _ => 0))))] := hD
  refine va_putF (D := D) (ci := 1) (v := .ref q8) (ty := .array .long) (C := RX1) (T := TX1) (N := 4) hx hb hts iw_X1_init_X1 tyX1 tyX1_ok nmX1 hown hK hP hD hS 0 rfl rfl 1 (by decide) (hts (.fieldLink RX1 9 "PassedDuties$Clashes" "bySet" "[J") (by decide +kernel)) (fun _ h9 => h9) rfl hin rfl (by decide +kernel) rfl rfl (Nat.le_of_ble_eq_true rfl) dX1_init_10 (fun H locs hP hD hS => ?_)
  have hP : va_P D vwCl [(h, .inr (1, [.null, .ref q8, .null, .int 0])), (q8, .inl (cL, 256, .inr (.inl (fun _ => 0))))] H := hP
  have hD : va_D A [(h, .inr (1, [.null, .ref q8, .null, .int 0])), (q8, .inl (cL, 256, .inr (.inl (fun _ => 0))))] := hD
  refine lv_aload_n hx hb dX1_init_13 rfl (lv_at hl 0 rfl) ?_
  refine lv_bipush (v := 8) hx hb dX1_init_14 (by decide) ?_
  refine jx_newJ (N := 8) hx hb (hts (.arrayClass .long) (by decide +kernel)) hK hP hD hS hA (by decide) (by decide) (by decide) (Nat.le_of_ble_eq_true rfl) (Nat.le_of_ble_eq_true rfl) dX1_init_16 (fun q16 H hP hD hS => ?_)
  have hP : va_P D vwCl [(h, .inr (1, [.null, .ref q8, .null, .int 0])), (q8, .inl (cL, 256, .inr (.inl (fun _ => 0)))), (q16, .inl (cL, 8, .inr (.inl (fun _ => 0))))] H := hP
  have hD : va_D A [(h, .inr (1, [.null, .ref q8, .null, .int 0])), (q8, .inl (cL, 256, .inr (.inl (fun _ => 0)))), (q16, .inl (cL, 8, .inr (.inl (fun _ => 0))))] := hD
  refine va_putF (D := D) (ci := 1) (v := .ref q16) (ty := .array .long) (C := RX1) (T := TX1) (N := 4) hx hb hts iw_X1_init_X1 tyX1 tyX1_ok nmX1 hown hK hP hD hS 0 rfl rfl 2 (by decide) (hts (.fieldLink RX1 15 "PassedDuties$Clashes" "rows" "[J") (by decide +kernel)) (fun _ h9 => h9) rfl hin rfl (by decide +kernel) rfl rfl (Nat.le_of_ble_eq_true rfl) dX1_init_18 (fun H locs hP hD hS => ?_)
  have hP : va_P D vwCl [(h, .inr (1, [.null, .ref q8, .ref q16, .int 0])), (q8, .inl (cL, 256, .inr (.inl (fun _ => 0)))), (q16, .inl (cL, 8, .inr (.inl (fun _ => 0))))] H := hP
  have hD : va_D A [(h, .inr (1, [.null, .ref q8, .ref q16, .int 0])), (q8, .inl (cL, 256, .inr (.inl (fun _ => 0)))), (q16, .inl (cL, 8, .inr (.inl (fun _ => 0))))] := hD
  refine lv_aload_n hx hb dX1_init_21 rfl (lv_at hl 0 rfl) ?_
  refine lv_iconst (v := -1) hx hb dX1_init_22 (by decide) ?_
  refine va_put (D := D) (ci := 1) (v := .int (-1 : Int32)) (ty := .int) (C := RX1) (T := TX1) (N := 4) hx hb hts iw_X1_init_X1 tyX1 tyX1_ok nmX1 hown hK hP hD hS 0 rfl rfl 3 (by decide) (hts (.fieldLink RX1 18 "PassedDuties$Clashes" "keptFor" "I") (by decide +kernel)) (fun _ h9 => h9) rfl (by decide +kernel) rfl rfl (Nat.le_of_ble_eq_true rfl) dX1_init_23 (fun H locs hP hD hS => ?_)
  have hP : va_P D vwCl [(h, .inr (1, [.null, .ref q8, .ref q16, .int (-1 : Int32)])), (q8, .inl (cL, 256, .inr (.inl (fun _ => 0)))), (q16, .inl (cL, 8, .inr (.inl (fun _ => 0))))] H := hP
  have hD : va_D A [(h, .inr (1, [.null, .ref q8, .ref q16, .int (-1 : Int32)])), (q8, .inl (cL, 256, .inr (.inl (fun _ => 0)))), (q16, .inl (cL, 8, .inr (.inl (fun _ => 0))))] := hD
  refine lv_aload_n hx hb dX1_init_26 rfl (lv_at hl 0 rfl) ?_
  refine lv_aload_n hx hb dX1_init_27 rfl (lv_at hl 1 rfl) ?_
  refine va_putF (D := D) (ci := 1) (v := .ref g) (ty := .object "PassedDuties$Parts") (C := RX1) (T := TX1) (N := 4) hx hb hts iw_X1_init_X1 tyX1 tyX1_ok nmX1 hown hK hP hD hS 0 rfl rfl 0 (by decide) (hts (.fieldLink RX1 22 "PassedDuties$Clashes" "parts" "LPassedDuties$Parts;") (by decide +kernel)) (fun _ h9 => h9) rfl hin rfl (by decide +kernel) rfl rfl (Nat.le_of_ble_eq_true rfl) dX1_init_28 (fun H locs hP hD hS => ?_)
  have hP : va_P D vwCl [(h, .inr (1, [.ref g, .ref q8, .ref q16, .int (-1 : Int32)])), (q8, .inl (cL, 256, .inr (.inl (fun _ => 0)))), (q16, .inl (cL, 8, .inr (.inl (fun _ => 0))))] H := hP
  have hD : va_D A [(h, .inr (1, [.ref g, .ref q8, .ref q16, .int (-1 : Int32)])), (q8, .inl (cL, 256, .inr (.inl (fun _ => 0)))), (q16, .inl (cL, 8, .inr (.inl (fun _ => 0))))] := hD
  exact jx_retc (fun k => ([q8, q16] : List Nat).getD k 0) hx hb hr hlocks hK hP hD hS dX1_init_31
theorem iw_X6_init_X0 : ∀ w ∈ wsX00, w ∈ wsX6_init := by decide +kernel
theorem iw_X6_init_X1 : ∀ w ∈ wsX10, w ∈ wsX6_init := by decide +kernel
theorem iw_X6_init_X2 : ∀ w ∈ wsX20, w ∈ wsX6_init := by decide +kernel
theorem iw_X6_init_X3 : ∀ w ∈ wsX30, w ∈ wsX6_init := by decide +kernel
theorem iw_X6_init_X5 : ∀ w ∈ wsX50, w ∈ wsX6_init := by decide +kernel
theorem iw_X6_init_X6 : ∀ w ∈ wsX60, w ∈ wsX6_init := by decide +kernel
set_option maxHeartbeats 4000000 in
set_option maxRecDepth 100000 in
theorem k_X6_init (l : Launch) (D : va_G) (h : Nat) (cI cL : ClassId) : jMc l yX6_init wsX6_init ({ frames := 2, cells := 15, slots := 474, locals := 43 }) D [(cI, .int), (cL, .long)] [.ref h] [(h, .inr (5, [.null, .null, .null, .null, .null]))] (fun u => [(h, .inr (5, [.ref (u 0), .ref (u 2), .ref (u 4), .ref (u 10), .ref (u 12)])), ((u 0), .inr (2, [.ref (u 1), .int (0 : Int32)])), ((u 1), .inl (cI, 24, .inl (fun _ => 0))), ((u 2), .inr (0, [.ref (u 3), .int (0 : Int32)])), ((u 3), .inl (cL, 8, .inr (.inl (fun _ => 0)))), ((u 4), .inr (3, [.ref (u 5), .ref (u 6), .ref (u 7), .ref (u 8), .ref (u 9), .int (0 : Int32), .int (0 : Int32), .int (0 : Int32)])), ((u 5), .inl (cI, 8, .inl (fun _ => 0))), ((u 6), .inl (cL, 8, .inr (.inl (fun _ => 0)))), ((u 7), .inl (cI, 64, .inl jx_fillv)), ((u 8), .inl (cL, 64, .inr (.inl (fun _ => 0)))), ((u 9), .inl (cL, 8, .inr (.inl (fun _ => 0)))), ((u 10), .inr (4, [.ref (u 4), .ref (u 11)])), ((u 11), .inl (cI, 8, .inl (fun _ => 0))), ((u 12), .inr (1, [.ref (u 4), .ref (u 13), .ref (u 14), .int (-1 : Int32)])), ((u 13), .inl (cL, 256, .inr (.inl (fun _ => 0)))), ((u 14), .inl (cL, 8, .inr (.inl (fun _ => 0))))]) 15 474 := by
  intro sz
  refine Met.ofW (cc := cX6_init) (maxL := 1) (ret := none) (by decide) rfl ?_
  intro p e s m args below meth c s₁ B hml hv
  obtain ⟨rfl, hsz, hP, hK, hD0, hN⟩ := hv
  have hx := B.exec
  have hb := B.bytes
  have hr := B.returns
  have hts := atoms_spec (ws := wsX6_init) B.pre
  have hown : s.vm.findClass RX6 = some m.cls := findClass_of_methodNamed B.named
  have hlocks := B.notSynchronized
  have hin : meth.name = "<init>" := (name_of_methodNamed B.named B.method).1
  subst hsz
  have hD := hD0.self (sz := s.heap.size)
  generalize hAe : va_A [(h, .inr (5, [.null, .null, .null, .null, .null]))] s.heap.size = A at hD ⊢
  have hA : ∀ q : Nat, s.heap.size ≤ q → A q := fun q h => by rw [← hAe]; exact Or.inr h
  have hS : va_S A s.heap s.heap [] := va_S.rf
  have hl := lv_entry ([.ref h]) (n := 1) (Nat.le_of_ble_eq_true rfl)
  rw [lg_entry_eq]
  generalize (lg_sl ([.ref h]) ++ List.replicate (1 - (lg_sl ([.ref h])).length) Slot.unset).toArray = ls at hl ⊢
  have hl : lv_has ls 1 [(0, .ref h)] := hl
  refine lv_aload_n hx hb dX6_init_0 rfl (lv_at hl 0 rfl) ?_
  refine W.objInit hx hb hown (hts (.methodLink RX6 3 objectInit) (by decide +kernel)) (hts (.instanceMethod objectInit) (by decide +kernel)) (hts (.code objectInit ⟨#[0xb1]⟩ 1 none) (List.mem_cons_of_mem _ (List.mem_append_left _ (List.mem_append_left _ (List.mem_append_left _ (List.mem_append_left _ (List.mem_append_left _ (List.mem_append_left _ (List.mem_append_left _ (List.mem_of_getElem? (i := 2) rfl)))))))))) rfl (by rw [hml]; exact hl.1) rfl dX6_init_1 (Nat.le_of_ble_eq_true rfl) (Nat.le_of_ble_eq_true rfl) ?_
  refine W.eq (g2 := F0 m 4 ls []) rfl ?_
  refine lv_aload_n hx hb dX6_init_4 rfl (lv_at hl 0 rfl) ?_
  refine va_new (ci := 2) (fs := [.null, .int 0]) (C := RX2) (T := TX2) (N := 2) hx hb hts iw_X6_init_X2 tyX2 tyX2_ok hown (hts (.classLink RX6 9 RX2) (by decide +kernel)) (hts (.instantiable RX2 2) (by decide +kernel)) (hts (.initialized RX2) (by decide +kernel)) hK hP hD hS hA rfl (by decide) (Nat.le_of_ble_eq_true rfl) (Nat.le_of_ble_eq_true rfl) dX6_init_5 (fun q5 H hP hD hS => ?_)
  have hP : va_P D vwCl [(h, .inr (5, [.null, .null, .null, .null, .null])), (q5, .inr (2, [.null, .int 0]))] H := hP
  have hD : va_D A [(h, .inr (5, [.null, .null, .null, .null, .null])), (q5, .inr (2, [.null, .int 0]))] := hD
  refine lv_dup hx hb dX6_init_8 rfl ?_
  refine jx_kc (wr := [(h, .inr (5, [.null, .null, .null, .null, .null]))]) (jx_runIN (As := []) (rest := [.ref q5, .ref h]) ⟨hx, hb, hml, hown, hts⟩ (k_X2_init l D q5 cI cL _) (va_cnB 0 hts gX6_init_X2_init_n11 rfl rfl rfl (hN (.methodLinkNest "PassedDuties" 11 yX2_init "PassedDuties") (by decide +kernel)) (hts (.initialized RX2) (by decide +kernel)) (by decide +kernel) ⟨Nat.le_of_ble_eq_true rfl, Nat.le_of_ble_eq_true rfl⟩) rfl (hts (.instanceMethod yX2_init) (by decide +kernel)) hK hN hP hD [1] rfl (by decide) rfl hl.1 rfl (Nat.le_of_ble_eq_true rfl) dX6_init_9 ⟨Nat.le_of_ble_eq_true rfl, Nat.le_of_ble_eq_true rfl⟩) hP hD hS hA [1] [0] rfl rfl (by decide) (by decide) (fun u9 H locs hP hD hS => ?_)
  have hP : va_P D vwCl [(h, .inr (5, [.null, .null, .null, .null, .null])), (q5, .inr (2, [.ref (u9 0), .int (0 : Int32)])), ((u9 0), .inl (cI, 24, .inl (fun _ => 0)))] H := hP
  have hD : va_D A [(h, .inr (5, [.null, .null, .null, .null, .null])), (q5, .inr (2, [.ref (u9 0), .int (0 : Int32)])), ((u9 0), .inl (cI, 24, .inl (fun _ => 0)))] := hD
  refine va_putF (D := D) (ci := 5) (v := .ref q5) (ty := .object "PassedDuties$Page") (C := RX6) (T := TX6) (N := 5) hx hb hts iw_X6_init_X6 tyX6 tyX6_ok nmX6 hown hK hP hD hS 0 rfl rfl 0 (by decide) (hts (.fieldLink RX6 12 "PassedDuties" "page" "LPassedDuties$Page;") (by decide +kernel)) (fun _ h9 => h9) rfl hin rfl (by decide +kernel) rfl rfl (Nat.le_of_ble_eq_true rfl) dX6_init_12 (fun H locs hP hD hS => ?_)
  have hP : va_P D vwCl [(h, .inr (5, [.ref q5, .null, .null, .null, .null])), (q5, .inr (2, [.ref (u9 0), .int (0 : Int32)])), ((u9 0), .inl (cI, 24, .inl (fun _ => 0)))] H := hP
  have hD : va_D A [(h, .inr (5, [.ref q5, .null, .null, .null, .null])), (q5, .inr (2, [.ref (u9 0), .int (0 : Int32)])), ((u9 0), .inl (cI, 24, .inl (fun _ => 0)))] := hD
  refine lv_aload_n hx hb dX6_init_15 rfl (lv_at hl 0 rfl) ?_
  refine va_new (ci := 0) (fs := [.null, .int 0]) (C := RX0) (T := TX0) (N := 2) hx hb hts iw_X6_init_X0 tyX0 tyX0_ok hown (hts (.classLink RX6 16 RX0) (by decide +kernel)) (hts (.instantiable RX0 2) (by decide +kernel)) (hts (.initialized RX0) (by decide +kernel)) hK hP hD hS hA rfl (by decide) (Nat.le_of_ble_eq_true rfl) (Nat.le_of_ble_eq_true rfl) dX6_init_16 (fun q16 H hP hD hS => ?_)
  have hP : va_P D vwCl [(h, .inr (5, [.ref q5, .null, .null, .null, .null])), (q5, .inr (2, [.ref (u9 0), .int (0 : Int32)])), ((u9 0), .inl (cI, 24, .inl (fun _ => 0))), (q16, .inr (0, [.null, .int 0]))] H := hP
  have hD : va_D A [(h, .inr (5, [.ref q5, .null, .null, .null, .null])), (q5, .inr (2, [.ref (u9 0), .int (0 : Int32)])), ((u9 0), .inl (cI, 24, .inl (fun _ => 0))), (q16, .inr (0, [.null, .int 0]))] := hD
  refine lv_dup hx hb dX6_init_19 rfl ?_
  refine jx_kc (wr := [(h, .inr (5, [.ref q5, .null, .null, .null, .null])), (q5, .inr (2, [.ref (u9 0), .int (0 : Int32)])), ((u9 0), .inl (cI, 24, .inl (fun _ => 0)))]) (jx_runIN (As := []) (rest := [.ref q16, .ref h]) ⟨hx, hb, hml, hown, hts⟩ (k_X0_init l D q16 cI cL _) (va_cnB 0 hts gX6_init_X0_init_n18 rfl rfl rfl (hN (.methodLinkNest "PassedDuties" 18 yX0_init "PassedDuties") (by decide +kernel)) (hts (.initialized RX0) (by decide +kernel)) (by decide +kernel) ⟨Nat.le_of_ble_eq_true rfl, Nat.le_of_ble_eq_true rfl⟩) rfl (hts (.instanceMethod yX0_init) (by decide +kernel)) hK hN hP hD [3] rfl (by decide) rfl hl.1 rfl (Nat.le_of_ble_eq_true rfl) dX6_init_20 ⟨Nat.le_of_ble_eq_true rfl, Nat.le_of_ble_eq_true rfl⟩) hP hD hS hA [3] [0, 1, 2] rfl rfl (by decide) (by decide) (fun u20 H locs hP hD hS => ?_)
  have hP : va_P D vwCl [(h, .inr (5, [.ref q5, .null, .null, .null, .null])), (q5, .inr (2, [.ref (u9 0), .int (0 : Int32)])), ((u9 0), .inl (cI, 24, .inl (fun _ => 0))), (q16, .inr (0, [.ref (u20 0), .int (0 : Int32)])), ((u20 0), .inl (cL, 8, .inr (.inl (fun _ => 0))))] H := hP
  have hD : va_D A [(h, .inr (5, [.ref q5, .null, .null, .null, .null])), (q5, .inr (2, [.ref (u9 0), .int (0 : Int32)])), ((u9 0), .inl (cI, 24, .inl (fun _ => 0))), (q16, .inr (0, [.ref (u20 0), .int (0 : Int32)])), ((u20 0), .inl (cL, 8, .inr (.inl (fun _ => 0))))] := hD
  refine va_putF (D := D) (ci := 5) (v := .ref q16) (ty := .object "PassedDuties$Book") (C := RX6) (T := TX6) (N := 5) hx hb hts iw_X6_init_X6 tyX6 tyX6_ok nmX6 hown hK hP hD hS 0 rfl rfl 1 (by decide) (hts (.fieldLink RX6 19 "PassedDuties" "book" "LPassedDuties$Book;") (by decide +kernel)) (fun _ h9 => h9) rfl hin rfl (by decide +kernel) rfl rfl (Nat.le_of_ble_eq_true rfl) dX6_init_23 (fun H locs hP hD hS => ?_)
  have hP : va_P D vwCl [(h, .inr (5, [.ref q5, .ref q16, .null, .null, .null])), (q5, .inr (2, [.ref (u9 0), .int (0 : Int32)])), ((u9 0), .inl (cI, 24, .inl (fun _ => 0))), (q16, .inr (0, [.ref (u20 0), .int (0 : Int32)])), ((u20 0), .inl (cL, 8, .inr (.inl (fun _ => 0))))] H := hP
  have hD : va_D A [(h, .inr (5, [.ref q5, .ref q16, .null, .null, .null])), (q5, .inr (2, [.ref (u9 0), .int (0 : Int32)])), ((u9 0), .inl (cI, 24, .inl (fun _ => 0))), (q16, .inr (0, [.ref (u20 0), .int (0 : Int32)])), ((u20 0), .inl (cL, 8, .inr (.inl (fun _ => 0))))] := hD
  refine lv_aload_n hx hb dX6_init_26 rfl (lv_at hl 0 rfl) ?_
  refine va_new (ci := 3) (fs := [.null, .null, .null, .null, .null, .int 0, .int 0, .int 0]) (C := RX3) (T := TX3) (N := 8) hx hb hts iw_X6_init_X3 tyX3 tyX3_ok hown (hts (.classLink RX6 23 RX3) (by decide +kernel)) (hts (.instantiable RX3 8) (by decide +kernel)) (hts (.initialized RX3) (by decide +kernel)) hK hP hD hS hA rfl (by decide) (Nat.le_of_ble_eq_true rfl) (Nat.le_of_ble_eq_true rfl) dX6_init_27 (fun q27 H hP hD hS => ?_)
  have hP : va_P D vwCl [(h, .inr (5, [.ref q5, .ref q16, .null, .null, .null])), (q5, .inr (2, [.ref (u9 0), .int (0 : Int32)])), ((u9 0), .inl (cI, 24, .inl (fun _ => 0))), (q16, .inr (0, [.ref (u20 0), .int (0 : Int32)])), ((u20 0), .inl (cL, 8, .inr (.inl (fun _ => 0)))), (q27, .inr (3, [.null, .null, .null, .null, .null, .int 0, .int 0, .int 0]))] H := hP
  have hD : va_D A [(h, .inr (5, [.ref q5, .ref q16, .null, .null, .null])), (q5, .inr (2, [.ref (u9 0), .int (0 : Int32)])), ((u9 0), .inl (cI, 24, .inl (fun _ => 0))), (q16, .inr (0, [.ref (u20 0), .int (0 : Int32)])), ((u20 0), .inl (cL, 8, .inr (.inl (fun _ => 0)))), (q27, .inr (3, [.null, .null, .null, .null, .null, .int 0, .int 0, .int 0]))] := hD
  refine lv_dup hx hb dX6_init_30 rfl ?_
  refine jx_kc (wr := [(h, .inr (5, [.ref q5, .ref q16, .null, .null, .null])), (q5, .inr (2, [.ref (u9 0), .int (0 : Int32)])), ((u9 0), .inl (cI, 24, .inl (fun _ => 0))), (q16, .inr (0, [.ref (u20 0), .int (0 : Int32)])), ((u20 0), .inl (cL, 8, .inr (.inl (fun _ => 0))))]) (jx_runI (As := []) (rest := [.ref q27, .ref h]) ⟨hx, hb, hml, hown, hts⟩ (k_X3_init l D q27 cI cL _) (cwI 0 hts gX6_init_X3_init rfl rfl rfl (hts (.initialized RX3) (by decide +kernel)) (hts (.methodLink RX6 25 yX3_init) (by decide +kernel)) (hts (.instanceMethod yX3_init) (by decide +kernel)) rfl (by decide +kernel) ⟨Nat.le_of_ble_eq_true rfl, Nat.le_of_ble_eq_true rfl⟩) hK hN hP hD [5] rfl (by decide) rfl hl.1 rfl (Nat.le_of_ble_eq_true rfl) dX6_init_31 ⟨Nat.le_of_ble_eq_true rfl, Nat.le_of_ble_eq_true rfl⟩) hP hD hS hA [5] [0, 1, 2, 3, 4] rfl rfl (by decide) (by decide) (fun u31 H locs hP hD hS => ?_)
  have hP : va_P D vwCl [(h, .inr (5, [.ref q5, .ref q16, .null, .null, .null])), (q5, .inr (2, [.ref (u9 0), .int (0 : Int32)])), ((u9 0), .inl (cI, 24, .inl (fun _ => 0))), (q16, .inr (0, [.ref (u20 0), .int (0 : Int32)])), ((u20 0), .inl (cL, 8, .inr (.inl (fun _ => 0)))), (q27, .inr (3, [.ref (u31 0), .ref (u31 1), .ref (u31 2), .ref (u31 3), .ref (u31 4), .int (0 : Int32), .int (0 : Int32), .int (0 : Int32)])), ((u31 0), .inl (cI, 8, .inl (fun _ => 0))), ((u31 1), .inl (cL, 8, .inr (.inl (fun _ => 0)))), ((u31 2), .inl (cI, 64, .inl jx_fillv)), ((u31 3), .inl (cL, 64, .inr (.inl (fun _ => 0)))), ((u31 4), .inl (cL, 8, .inr (.inl (fun _ => 0))))] H := hP
  have hD : va_D A [(h, .inr (5, [.ref q5, .ref q16, .null, .null, .null])), (q5, .inr (2, [.ref (u9 0), .int (0 : Int32)])), ((u9 0), .inl (cI, 24, .inl (fun _ => 0))), (q16, .inr (0, [.ref (u20 0), .int (0 : Int32)])), ((u20 0), .inl (cL, 8, .inr (.inl (fun _ => 0)))), (q27, .inr (3, [.ref (u31 0), .ref (u31 1), .ref (u31 2), .ref (u31 3), .ref (u31 4), .int (0 : Int32), .int (0 : Int32), .int (0 : Int32)])), ((u31 0), .inl (cI, 8, .inl (fun _ => 0))), ((u31 1), .inl (cL, 8, .inr (.inl (fun _ => 0)))), ((u31 2), .inl (cI, 64, .inl jx_fillv)), ((u31 3), .inl (cL, 64, .inr (.inl (fun _ => 0)))), ((u31 4), .inl (cL, 8, .inr (.inl (fun _ => 0))))] := hD
  refine va_putF (D := D) (ci := 5) (v := .ref q27) (ty := .object "PassedDuties$Parts") (C := RX6) (T := TX6) (N := 5) hx hb hts iw_X6_init_X6 tyX6 tyX6_ok nmX6 hown hK hP hD hS 0 rfl rfl 2 (by decide) (hts (.fieldLink RX6 26 "PassedDuties" "parts" "LPassedDuties$Parts;") (by decide +kernel)) (fun _ h9 => h9) rfl hin rfl (by decide +kernel) rfl rfl (Nat.le_of_ble_eq_true rfl) dX6_init_34 (fun H locs hP hD hS => ?_)
  have hP : va_P D vwCl [(h, .inr (5, [.ref q5, .ref q16, .ref q27, .null, .null])), (q5, .inr (2, [.ref (u9 0), .int (0 : Int32)])), ((u9 0), .inl (cI, 24, .inl (fun _ => 0))), (q16, .inr (0, [.ref (u20 0), .int (0 : Int32)])), ((u20 0), .inl (cL, 8, .inr (.inl (fun _ => 0)))), (q27, .inr (3, [.ref (u31 0), .ref (u31 1), .ref (u31 2), .ref (u31 3), .ref (u31 4), .int (0 : Int32), .int (0 : Int32), .int (0 : Int32)])), ((u31 0), .inl (cI, 8, .inl (fun _ => 0))), ((u31 1), .inl (cL, 8, .inr (.inl (fun _ => 0)))), ((u31 2), .inl (cI, 64, .inl jx_fillv)), ((u31 3), .inl (cL, 64, .inr (.inl (fun _ => 0)))), ((u31 4), .inl (cL, 8, .inr (.inl (fun _ => 0))))] H := hP
  have hD : va_D A [(h, .inr (5, [.ref q5, .ref q16, .ref q27, .null, .null])), (q5, .inr (2, [.ref (u9 0), .int (0 : Int32)])), ((u9 0), .inl (cI, 24, .inl (fun _ => 0))), (q16, .inr (0, [.ref (u20 0), .int (0 : Int32)])), ((u20 0), .inl (cL, 8, .inr (.inl (fun _ => 0)))), (q27, .inr (3, [.ref (u31 0), .ref (u31 1), .ref (u31 2), .ref (u31 3), .ref (u31 4), .int (0 : Int32), .int (0 : Int32), .int (0 : Int32)])), ((u31 0), .inl (cI, 8, .inl (fun _ => 0))), ((u31 1), .inl (cL, 8, .inr (.inl (fun _ => 0)))), ((u31 2), .inl (cI, 64, .inl jx_fillv)), ((u31 3), .inl (cL, 64, .inr (.inl (fun _ => 0)))), ((u31 4), .inl (cL, 8, .inr (.inl (fun _ => 0))))] := hD
  refine lv_aload_n hx hb dX6_init_37 rfl (lv_at hl 0 rfl) ?_
  refine va_new (ci := 4) (fs := [.null, .null]) (C := RX5) (T := TX5) (N := 2) hx hb hts iw_X6_init_X5 tyX5 tyX5_ok hown (hts (.classLink RX6 30 RX5) (by decide +kernel)) (hts (.instantiable RX5 2) (by decide +kernel)) (hts (.initialized RX5) (by decide +kernel)) hK hP hD hS hA rfl (by decide) (Nat.le_of_ble_eq_true rfl) (Nat.le_of_ble_eq_true rfl) dX6_init_38 (fun q38 H hP hD hS => ?_)
  have hP : va_P D vwCl [(h, .inr (5, [.ref q5, .ref q16, .ref q27, .null, .null])), (q5, .inr (2, [.ref (u9 0), .int (0 : Int32)])), ((u9 0), .inl (cI, 24, .inl (fun _ => 0))), (q16, .inr (0, [.ref (u20 0), .int (0 : Int32)])), ((u20 0), .inl (cL, 8, .inr (.inl (fun _ => 0)))), (q27, .inr (3, [.ref (u31 0), .ref (u31 1), .ref (u31 2), .ref (u31 3), .ref (u31 4), .int (0 : Int32), .int (0 : Int32), .int (0 : Int32)])), ((u31 0), .inl (cI, 8, .inl (fun _ => 0))), ((u31 1), .inl (cL, 8, .inr (.inl (fun _ => 0)))), ((u31 2), .inl (cI, 64, .inl jx_fillv)), ((u31 3), .inl (cL, 64, .inr (.inl (fun _ => 0)))), ((u31 4), .inl (cL, 8, .inr (.inl (fun _ => 0)))), (q38, .inr (4, [.null, .null]))] H := hP
  have hD : va_D A [(h, .inr (5, [.ref q5, .ref q16, .ref q27, .null, .null])), (q5, .inr (2, [.ref (u9 0), .int (0 : Int32)])), ((u9 0), .inl (cI, 24, .inl (fun _ => 0))), (q16, .inr (0, [.ref (u20 0), .int (0 : Int32)])), ((u20 0), .inl (cL, 8, .inr (.inl (fun _ => 0)))), (q27, .inr (3, [.ref (u31 0), .ref (u31 1), .ref (u31 2), .ref (u31 3), .ref (u31 4), .int (0 : Int32), .int (0 : Int32), .int (0 : Int32)])), ((u31 0), .inl (cI, 8, .inl (fun _ => 0))), ((u31 1), .inl (cL, 8, .inr (.inl (fun _ => 0)))), ((u31 2), .inl (cI, 64, .inl jx_fillv)), ((u31 3), .inl (cL, 64, .inr (.inl (fun _ => 0)))), ((u31 4), .inl (cL, 8, .inr (.inl (fun _ => 0)))), (q38, .inr (4, [.null, .null]))] := hD
  refine lv_dup hx hb dX6_init_41 rfl ?_
  refine lv_aload_n hx hb dX6_init_42 rfl (lv_at hl 0 rfl) ?_
  refine va_get (D := D) (ci := 5) (v := .ref q27) (C := RX6) (T := TX6) (N := 5) hx hb hts iw_X6_init_X6 hown hK hP 0 rfl rfl 2 (by decide) (hts (.fieldLink RX6 26 "PassedDuties" "parts" "LPassedDuties$Parts;") (by decide +kernel)) (fun _ h9 => h9) rfl dX6_init_43 ?_
  refine jx_kc (wr := [(h, .inr (5, [.ref q5, .ref q16, .ref q27, .null, .null])), (q5, .inr (2, [.ref (u9 0), .int (0 : Int32)])), ((u9 0), .inl (cI, 24, .inl (fun _ => 0))), (q16, .inr (0, [.ref (u20 0), .int (0 : Int32)])), ((u20 0), .inl (cL, 8, .inr (.inl (fun _ => 0)))), (q27, .inr (3, [.ref (u31 0), .ref (u31 1), .ref (u31 2), .ref (u31 3), .ref (u31 4), .int (0 : Int32), .int (0 : Int32), .int (0 : Int32)])), ((u31 0), .inl (cI, 8, .inl (fun _ => 0))), ((u31 1), .inl (cL, 8, .inr (.inl (fun _ => 0)))), ((u31 2), .inl (cI, 64, .inl jx_fillv)), ((u31 3), .inl (cL, 64, .inr (.inl (fun _ => 0)))), ((u31 4), .inl (cL, 8, .inr (.inl (fun _ => 0))))]) (jx_runI (As := [.ref q27]) (rest := [.ref q38, .ref h]) ⟨hx, hb, hml, hown, hts⟩ (k_X5_init l D q38 cI cL q27 _) (cwI 1 hts gX6_init_X5_init rfl rfl rfl (hts (.initialized RX5) (by decide +kernel)) (hts (.methodLink RX6 32 yX5_init) (by decide +kernel)) (hts (.instanceMethod yX5_init) (by decide +kernel)) rfl (by decide +kernel) ⟨Nat.le_of_ble_eq_true rfl, Nat.le_of_ble_eq_true rfl⟩) hK hN hP hD [11] rfl (by decide) rfl hl.1 rfl (Nat.le_of_ble_eq_true rfl) dX6_init_46 ⟨Nat.le_of_ble_eq_true rfl, Nat.le_of_ble_eq_true rfl⟩) hP hD hS hA [11] [0, 1, 2, 3, 4, 5, 6, 7, 8, 9, 10] rfl rfl (by decide) (by decide) (fun u46 H locs hP hD hS => ?_)
  have hP : va_P D vwCl [(h, .inr (5, [.ref q5, .ref q16, .ref q27, .null, .null])), (q5, .inr (2, [.ref (u9 0), .int (0 : Int32)])), ((u9 0), .inl (cI, 24, .inl (fun _ => 0))), (q16, .inr (0, [.ref (u20 0), .int (0 : Int32)])), ((u20 0), .inl (cL, 8, .inr (.inl (fun _ => 0)))), (q27, .inr (3, [.ref (u31 0), .ref (u31 1), .ref (u31 2), .ref (u31 3), .ref (u31 4), .int (0 : Int32), .int (0 : Int32), .int (0 : Int32)])), ((u31 0), .inl (cI, 8, .inl (fun _ => 0))), ((u31 1), .inl (cL, 8, .inr (.inl (fun _ => 0)))), ((u31 2), .inl (cI, 64, .inl jx_fillv)), ((u31 3), .inl (cL, 64, .inr (.inl (fun _ => 0)))), ((u31 4), .inl (cL, 8, .inr (.inl (fun _ => 0)))), (q38, .inr (4, [.ref q27, .ref (u46 0)])), ((u46 0), .inl (cI, 8, .inl (fun _ => 0)))] H := hP
  have hD : va_D A [(h, .inr (5, [.ref q5, .ref q16, .ref q27, .null, .null])), (q5, .inr (2, [.ref (u9 0), .int (0 : Int32)])), ((u9 0), .inl (cI, 24, .inl (fun _ => 0))), (q16, .inr (0, [.ref (u20 0), .int (0 : Int32)])), ((u20 0), .inl (cL, 8, .inr (.inl (fun _ => 0)))), (q27, .inr (3, [.ref (u31 0), .ref (u31 1), .ref (u31 2), .ref (u31 3), .ref (u31 4), .int (0 : Int32), .int (0 : Int32), .int (0 : Int32)])), ((u31 0), .inl (cI, 8, .inl (fun _ => 0))), ((u31 1), .inl (cL, 8, .inr (.inl (fun _ => 0)))), ((u31 2), .inl (cI, 64, .inl jx_fillv)), ((u31 3), .inl (cL, 64, .inr (.inl (fun _ => 0)))), ((u31 4), .inl (cL, 8, .inr (.inl (fun _ => 0)))), (q38, .inr (4, [.ref q27, .ref (u46 0)])), ((u46 0), .inl (cI, 8, .inl (fun _ => 0)))] := hD
  refine va_putF (D := D) (ci := 5) (v := .ref q38) (ty := .object "PassedDuties$Ways") (C := RX6) (T := TX6) (N := 5) hx hb hts iw_X6_init_X6 tyX6 tyX6_ok nmX6 hown hK hP hD hS 0 rfl rfl 3 (by decide) (hts (.fieldLink RX6 35 "PassedDuties" "ways" "LPassedDuties$Ways;") (by decide +kernel)) (fun _ h9 => h9) rfl hin rfl (by decide +kernel) rfl rfl (Nat.le_of_ble_eq_true rfl) dX6_init_49 (fun H locs hP hD hS => ?_)
  have hP : va_P D vwCl [(h, .inr (5, [.ref q5, .ref q16, .ref q27, .ref q38, .null])), (q5, .inr (2, [.ref (u9 0), .int (0 : Int32)])), ((u9 0), .inl (cI, 24, .inl (fun _ => 0))), (q16, .inr (0, [.ref (u20 0), .int (0 : Int32)])), ((u20 0), .inl (cL, 8, .inr (.inl (fun _ => 0)))), (q27, .inr (3, [.ref (u31 0), .ref (u31 1), .ref (u31 2), .ref (u31 3), .ref (u31 4), .int (0 : Int32), .int (0 : Int32), .int (0 : Int32)])), ((u31 0), .inl (cI, 8, .inl (fun _ => 0))), ((u31 1), .inl (cL, 8, .inr (.inl (fun _ => 0)))), ((u31 2), .inl (cI, 64, .inl jx_fillv)), ((u31 3), .inl (cL, 64, .inr (.inl (fun _ => 0)))), ((u31 4), .inl (cL, 8, .inr (.inl (fun _ => 0)))), (q38, .inr (4, [.ref q27, .ref (u46 0)])), ((u46 0), .inl (cI, 8, .inl (fun _ => 0)))] H := hP
  have hD : va_D A [(h, .inr (5, [.ref q5, .ref q16, .ref q27, .ref q38, .null])), (q5, .inr (2, [.ref (u9 0), .int (0 : Int32)])), ((u9 0), .inl (cI, 24, .inl (fun _ => 0))), (q16, .inr (0, [.ref (u20 0), .int (0 : Int32)])), ((u20 0), .inl (cL, 8, .inr (.inl (fun _ => 0)))), (q27, .inr (3, [.ref (u31 0), .ref (u31 1), .ref (u31 2), .ref (u31 3), .ref (u31 4), .int (0 : Int32), .int (0 : Int32), .int (0 : Int32)])), ((u31 0), .inl (cI, 8, .inl (fun _ => 0))), ((u31 1), .inl (cL, 8, .inr (.inl (fun _ => 0)))), ((u31 2), .inl (cI, 64, .inl jx_fillv)), ((u31 3), .inl (cL, 64, .inr (.inl (fun _ => 0)))), ((u31 4), .inl (cL, 8, .inr (.inl (fun _ => 0)))), (q38, .inr (4, [.ref q27, .ref (u46 0)])), ((u46 0), .inl (cI, 8, .inl (fun _ => 0)))] := hD
  refine lv_aload_n hx hb dX6_init_52 rfl (lv_at hl 0 rfl) ?_
  refine va_new (ci := 1) (fs := [.null, .null, .null, .int 0]) (C := RX1) (T := TX1) (N := 4) hx hb hts iw_X6_init_X1 tyX1 tyX1_ok hown (hts (.classLink RX6 39 RX1) (by decide +kernel)) (hts (.instantiable RX1 4) (by decide +kernel)) (hts (.initialized RX1) (by decide +kernel)) hK hP hD hS hA rfl (by decide) (Nat.le_of_ble_eq_true rfl) (Nat.le_of_ble_eq_true rfl) dX6_init_53 (fun q53 H hP hD hS => ?_)
  have hP : va_P D vwCl [(h, .inr (5, [.ref q5, .ref q16, .ref q27, .ref q38, .null])), (q5, .inr (2, [.ref (u9 0), .int (0 : Int32)])), ((u9 0), .inl (cI, 24, .inl (fun _ => 0))), (q16, .inr (0, [.ref (u20 0), .int (0 : Int32)])), ((u20 0), .inl (cL, 8, .inr (.inl (fun _ => 0)))), (q27, .inr (3, [.ref (u31 0), .ref (u31 1), .ref (u31 2), .ref (u31 3), .ref (u31 4), .int (0 : Int32), .int (0 : Int32), .int (0 : Int32)])), ((u31 0), .inl (cI, 8, .inl (fun _ => 0))), ((u31 1), .inl (cL, 8, .inr (.inl (fun _ => 0)))), ((u31 2), .inl (cI, 64, .inl jx_fillv)), ((u31 3), .inl (cL, 64, .inr (.inl (fun _ => 0)))), ((u31 4), .inl (cL, 8, .inr (.inl (fun _ => 0)))), (q38, .inr (4, [.ref q27, .ref (u46 0)])), ((u46 0), .inl (cI, 8, .inl (fun _ => 0))), (q53, .inr (1, [.null, .null, .null, .int 0]))] H := hP
  have hD : va_D A [(h, .inr (5, [.ref q5, .ref q16, .ref q27, .ref q38, .null])), (q5, .inr (2, [.ref (u9 0), .int (0 : Int32)])), ((u9 0), .inl (cI, 24, .inl (fun _ => 0))), (q16, .inr (0, [.ref (u20 0), .int (0 : Int32)])), ((u20 0), .inl (cL, 8, .inr (.inl (fun _ => 0)))), (q27, .inr (3, [.ref (u31 0), .ref (u31 1), .ref (u31 2), .ref (u31 3), .ref (u31 4), .int (0 : Int32), .int (0 : Int32), .int (0 : Int32)])), ((u31 0), .inl (cI, 8, .inl (fun _ => 0))), ((u31 1), .inl (cL, 8, .inr (.inl (fun _ => 0)))), ((u31 2), .inl (cI, 64, .inl jx_fillv)), ((u31 3), .inl (cL, 64, .inr (.inl (fun _ => 0)))), ((u31 4), .inl (cL, 8, .inr (.inl (fun _ => 0)))), (q38, .inr (4, [.ref q27, .ref (u46 0)])), ((u46 0), .inl (cI, 8, .inl (fun _ => 0))), (q53, .inr (1, [.null, .null, .null, .int 0]))] := hD
  refine lv_dup hx hb dX6_init_56 rfl ?_
  refine lv_aload_n hx hb dX6_init_57 rfl (lv_at hl 0 rfl) ?_
  refine va_get (D := D) (ci := 5) (v := .ref q27) (C := RX6) (T := TX6) (N := 5) hx hb hts iw_X6_init_X6 hown hK hP 0 rfl rfl 2 (by decide) (hts (.fieldLink RX6 26 "PassedDuties" "parts" "LPassedDuties$Parts;") (by decide +kernel)) (fun _ h9 => h9) rfl dX6_init_58 ?_
  refine jx_kc (wr := [(h, .inr (5, [.ref q5, .ref q16, .ref q27, .ref q38, .null])), (q5, .inr (2, [.ref (u9 0), .int (0 : Int32)])), ((u9 0), .inl (cI, 24, .inl (fun _ => 0))), (q16, .inr (0, [.ref (u20 0), .int (0 : Int32)])), ((u20 0), .inl (cL, 8, .inr (.inl (fun _ => 0)))), (q27, .inr (3, [.ref (u31 0), .ref (u31 1), .ref (u31 2), .ref (u31 3), .ref (u31 4), .int (0 : Int32), .int (0 : Int32), .int (0 : Int32)])), ((u31 0), .inl (cI, 8, .inl (fun _ => 0))), ((u31 1), .inl (cL, 8, .inr (.inl (fun _ => 0)))), ((u31 2), .inl (cI, 64, .inl jx_fillv)), ((u31 3), .inl (cL, 64, .inr (.inl (fun _ => 0)))), ((u31 4), .inl (cL, 8, .inr (.inl (fun _ => 0)))), (q38, .inr (4, [.ref q27, .ref (u46 0)])), ((u46 0), .inl (cI, 8, .inl (fun _ => 0)))]) (jx_runI (As := [.ref q27]) (rest := [.ref q53, .ref h]) ⟨hx, hb, hml, hown, hts⟩ (k_X1_init l D q53 cI cL q27 _) (cwI 1 hts gX6_init_X1_init rfl rfl rfl (hts (.initialized RX1) (by decide +kernel)) (hts (.methodLink RX6 41 yX1_init) (by decide +kernel)) (hts (.instanceMethod yX1_init) (by decide +kernel)) rfl (by decide +kernel) ⟨Nat.le_of_ble_eq_true rfl, Nat.le_of_ble_eq_true rfl⟩) hK hN hP hD [13] rfl (by decide) rfl hl.1 rfl (Nat.le_of_ble_eq_true rfl) dX6_init_61 ⟨Nat.le_of_ble_eq_true rfl, Nat.le_of_ble_eq_true rfl⟩) hP hD hS hA [13] [0, 1, 2, 3, 4, 5, 6, 7, 8, 9, 10, 11, 12] rfl rfl (by decide) (by decide) (fun u61 H locs hP hD hS => ?_)
  have hP : va_P D vwCl [(h, .inr (5, [.ref q5, .ref q16, .ref q27, .ref q38, .null])), (q5, .inr (2, [.ref (u9 0), .int (0 : Int32)])), ((u9 0), .inl (cI, 24, .inl (fun _ => 0))), (q16, .inr (0, [.ref (u20 0), .int (0 : Int32)])), ((u20 0), .inl (cL, 8, .inr (.inl (fun _ => 0)))), (q27, .inr (3, [.ref (u31 0), .ref (u31 1), .ref (u31 2), .ref (u31 3), .ref (u31 4), .int (0 : Int32), .int (0 : Int32), .int (0 : Int32)])), ((u31 0), .inl (cI, 8, .inl (fun _ => 0))), ((u31 1), .inl (cL, 8, .inr (.inl (fun _ => 0)))), ((u31 2), .inl (cI, 64, .inl jx_fillv)), ((u31 3), .inl (cL, 64, .inr (.inl (fun _ => 0)))), ((u31 4), .inl (cL, 8, .inr (.inl (fun _ => 0)))), (q38, .inr (4, [.ref q27, .ref (u46 0)])), ((u46 0), .inl (cI, 8, .inl (fun _ => 0))), (q53, .inr (1, [.ref q27, .ref (u61 0), .ref (u61 1), .int (-1 : Int32)])), ((u61 0), .inl (cL, 256, .inr (.inl (fun _ => 0)))), ((u61 1), .inl (cL, 8, .inr (.inl (fun _ => 0))))] H := hP
  have hD : va_D A [(h, .inr (5, [.ref q5, .ref q16, .ref q27, .ref q38, .null])), (q5, .inr (2, [.ref (u9 0), .int (0 : Int32)])), ((u9 0), .inl (cI, 24, .inl (fun _ => 0))), (q16, .inr (0, [.ref (u20 0), .int (0 : Int32)])), ((u20 0), .inl (cL, 8, .inr (.inl (fun _ => 0)))), (q27, .inr (3, [.ref (u31 0), .ref (u31 1), .ref (u31 2), .ref (u31 3), .ref (u31 4), .int (0 : Int32), .int (0 : Int32), .int (0 : Int32)])), ((u31 0), .inl (cI, 8, .inl (fun _ => 0))), ((u31 1), .inl (cL, 8, .inr (.inl (fun _ => 0)))), ((u31 2), .inl (cI, 64, .inl jx_fillv)), ((u31 3), .inl (cL, 64, .inr (.inl (fun _ => 0)))), ((u31 4), .inl (cL, 8, .inr (.inl (fun _ => 0)))), (q38, .inr (4, [.ref q27, .ref (u46 0)])), ((u46 0), .inl (cI, 8, .inl (fun _ => 0))), (q53, .inr (1, [.ref q27, .ref (u61 0), .ref (u61 1), .int (-1 : Int32)])), ((u61 0), .inl (cL, 256, .inr (.inl (fun _ => 0)))), ((u61 1), .inl (cL, 8, .inr (.inl (fun _ => 0))))] := hD
  refine va_putF (D := D) (ci := 5) (v := .ref q53) (ty := .object "PassedDuties$Clashes") (C := RX6) (T := TX6) (N := 5) hx hb hts iw_X6_init_X6 tyX6 tyX6_ok nmX6 hown hK hP hD hS 0 rfl rfl 4 (by decide) (hts (.fieldLink RX6 42 "PassedDuties" "clashes" "LPassedDuties$Clashes;") (by decide +kernel)) (fun _ h9 => h9) rfl hin rfl (by decide +kernel) rfl rfl (Nat.le_of_ble_eq_true rfl) dX6_init_64 (fun H locs hP hD hS => ?_)
  have hP : va_P D vwCl [(h, .inr (5, [.ref q5, .ref q16, .ref q27, .ref q38, .ref q53])), (q5, .inr (2, [.ref (u9 0), .int (0 : Int32)])), ((u9 0), .inl (cI, 24, .inl (fun _ => 0))), (q16, .inr (0, [.ref (u20 0), .int (0 : Int32)])), ((u20 0), .inl (cL, 8, .inr (.inl (fun _ => 0)))), (q27, .inr (3, [.ref (u31 0), .ref (u31 1), .ref (u31 2), .ref (u31 3), .ref (u31 4), .int (0 : Int32), .int (0 : Int32), .int (0 : Int32)])), ((u31 0), .inl (cI, 8, .inl (fun _ => 0))), ((u31 1), .inl (cL, 8, .inr (.inl (fun _ => 0)))), ((u31 2), .inl (cI, 64, .inl jx_fillv)), ((u31 3), .inl (cL, 64, .inr (.inl (fun _ => 0)))), ((u31 4), .inl (cL, 8, .inr (.inl (fun _ => 0)))), (q38, .inr (4, [.ref q27, .ref (u46 0)])), ((u46 0), .inl (cI, 8, .inl (fun _ => 0))), (q53, .inr (1, [.ref q27, .ref (u61 0), .ref (u61 1), .int (-1 : Int32)])), ((u61 0), .inl (cL, 256, .inr (.inl (fun _ => 0)))), ((u61 1), .inl (cL, 8, .inr (.inl (fun _ => 0))))] H := hP
  have hD : va_D A [(h, .inr (5, [.ref q5, .ref q16, .ref q27, .ref q38, .ref q53])), (q5, .inr (2, [.ref (u9 0), .int (0 : Int32)])), ((u9 0), .inl (cI, 24, .inl (fun _ => 0))), (q16, .inr (0, [.ref (u20 0), .int (0 : Int32)])), ((u20 0), .inl (cL, 8, .inr (.inl (fun _ => 0)))), (q27, .inr (3, [.ref (u31 0), .ref (u31 1), .ref (u31 2), .ref (u31 3), .ref (u31 4), .int (0 : Int32), .int (0 : Int32), .int (0 : Int32)])), ((u31 0), .inl (cI, 8, .inl (fun _ => 0))), ((u31 1), .inl (cL, 8, .inr (.inl (fun _ => 0)))), ((u31 2), .inl (cI, 64, .inl jx_fillv)), ((u31 3), .inl (cL, 64, .inr (.inl (fun _ => 0)))), ((u31 4), .inl (cL, 8, .inr (.inl (fun _ => 0)))), (q38, .inr (4, [.ref q27, .ref (u46 0)])), ((u46 0), .inl (cI, 8, .inl (fun _ => 0))), (q53, .inr (1, [.ref q27, .ref (u61 0), .ref (u61 1), .int (-1 : Int32)])), ((u61 0), .inl (cL, 256, .inr (.inl (fun _ => 0)))), ((u61 1), .inl (cL, 8, .inr (.inl (fun _ => 0))))] := hD
  exact jx_retc (fun k => ([q5, (u9 0), q16, (u20 0), q27, (u31 0), (u31 1), (u31 2), (u31 3), (u31 4), q38, (u46 0), q53, (u61 0), (u61 1)] : List Nat).getD k 0) hx hb hr hlocks hK hP hD hS dX6_init_67
theorem iw_X7_init_X7 : ∀ w ∈ wsX70, w ∈ wsX7_init := by decide +kernel
set_option maxHeartbeats 4000000 in
set_option maxRecDepth 100000 in
theorem k_X7_init (l : Launch) (D : va_G) (h : Nat) (cI cL : ClassId) : jMc l yX7_init wsX7_init ({ frames := 1, cells := 7, slots := 268, locals := 12 }) D [(cI, .int), (cL, .long)] [.ref h] [(h, .inr (6, [.int 0, .null, .int 0, .null, .int 0, .null, .null, .int 0, .int 0, .null, .null, .int 0, .null, .long 0]))] (fun u => [(h, .inr (6, [.int 0, .ref (u 0), .int 0, .ref (u 1), .int 0, .ref (u 2), .ref (u 3), .int 0, .int 0, .ref (u 4), .ref (u 5), .int 0, .ref (u 6), .long 0])), ((u 0), .inl (cI, 24, .inl (fun _ => 0))), ((u 1), .inl (cI, 108, .inl (fun _ => 0))), ((u 2), .inl (cI, 8, .inl (fun _ => 0))), ((u 3), .inl (cI, 64, .inl (fun _ => 0))), ((u 4), .inl (cI, 8, .inl (fun _ => 0))), ((u 5), .inl (cI, 8, .inl (fun _ => 0))), ((u 6), .inl (cI, 48, .inl (fun _ => 0)))]) 7 268 := by
  intro sz
  refine Met.ofW (cc := cX7_init) (maxL := 1) (ret := none) (by decide) rfl ?_
  intro p e s m args below meth c s₁ B hml hv
  obtain ⟨rfl, hsz, hP, hK, hD0, hN⟩ := hv
  have hx := B.exec
  have hb := B.bytes
  have hr := B.returns
  have hts := atoms_spec (ws := wsX7_init) B.pre
  have hown : s.vm.findClass RX7 = some m.cls := findClass_of_methodNamed B.named
  have hlocks := B.notSynchronized
  have hin : meth.name = "<init>" := (name_of_methodNamed B.named B.method).1
  subst hsz
  have hD := hD0.self (sz := s.heap.size)
  generalize hAe : va_A [(h, .inr (6, [.int 0, .null, .int 0, .null, .int 0, .null, .null, .int 0, .int 0, .null, .null, .int 0, .null, .long 0]))] s.heap.size = A at hD ⊢
  have hA : ∀ q : Nat, s.heap.size ≤ q → A q := fun q h => by rw [← hAe]; exact Or.inr h
  have hS : va_S A s.heap s.heap [] := va_S.rf
  have hl := lv_entry ([.ref h]) (n := 1) (Nat.le_of_ble_eq_true rfl)
  rw [lg_entry_eq]
  generalize (lg_sl ([.ref h]) ++ List.replicate (1 - (lg_sl ([.ref h])).length) Slot.unset).toArray = ls at hl ⊢
  have hl : lv_has ls 1 [(0, .ref h)] := hl
  refine lv_aload_n hx hb dX7_init_0 rfl (lv_at hl 0 rfl) ?_
  refine W.objInit hx hb hown (hts (.methodLink RX7 1 objectInit) (by decide +kernel)) (hts (.instanceMethod objectInit) (by decide +kernel)) (hts _ (List.mem_cons_of_mem _ (List.mem_append_left _ (List.mem_of_getElem? (i := 2) rfl)))) rfl (by rw [hml]; exact hl.1) rfl dX7_init_1 (Nat.le_of_ble_eq_true rfl) (Nat.le_of_ble_eq_true rfl) ?_
  refine W.eq (g2 := F0 m 4 ls []) rfl ?_
  refine lv_aload_n hx hb dX7_init_4 rfl (lv_at hl 0 rfl) ?_
  refine lv_bipush (v := 24) hx hb dX7_init_5 (by decide) ?_
  refine jx_newI (N := 24) hx hb (hts (.arrayClass .int) (by decide +kernel)) hK hP hD hS hA (by decide) (by decide) (by decide) (Nat.le_of_ble_eq_true rfl) (Nat.le_of_ble_eq_true rfl) dX7_init_7 (fun q7 H hP hD hS => ?_)
  have hP : va_P D vwCl [(h, .inr (6, [.int 0, .null, .int 0, .null, .int 0, .null, .null, .int 0, .int 0, .null, .null, .int 0, .null, .long 0])), (q7, .inl (cI, 24, .inl (fun _ => 0)))] H := hP
  have hD : va_D A [(h, .inr (6, [.int 0, .null, .int 0, .null, .int 0, .null, .null, .int 0, .int 0, .null, .null, .int 0, .null, .long 0])), (q7, .inl (cI, 24, .inl (fun _ => 0)))] := hD
  refine va_putF (D := D) (ci := 6) (v := .ref q7) (ty := .array .int) (C := RX7) (T := TX7) (N := 14) hx hb hts iw_X7_init_X7 tyX7 tyX7_ok nmX7 hown hK hP hD hS 0 rfl rfl 1 (by decide) (hts (.fieldLink RX7 7 "PassedDutiesModel" "page" "[I") (by decide +kernel)) (fun _ h9 => h9) rfl hin rfl (by decide +kernel) rfl rfl (Nat.le_of_ble_eq_true rfl) dX7_init_9 (fun H locs hP hD hS => ?_)
  have hP : va_P D vwCl [(h, .inr (6, [.int 0, .ref q7, .int 0, .null, .int 0, .null, .null, .int 0, .int 0, .null, .null, .int 0, .null, .long 0])), (q7, .inl (cI, 24, .inl (fun _ => 0)))] H := hP
  have hD : va_D A [(h, .inr (6, [.int 0, .ref q7, .int 0, .null, .int 0, .null, .null, .int 0, .int 0, .null, .null, .int 0, .null, .long 0])), (q7, .inl (cI, 24, .inl (fun _ => 0)))] := hD
  refine lv_aload_n hx hb dX7_init_12 rfl (lv_at hl 0 rfl) ?_
  refine lv_bipush (v := 108) hx hb dX7_init_13 (by decide) ?_
  refine jx_newI (N := 108) hx hb (hts (.arrayClass .int) (by decide +kernel)) hK hP hD hS hA (by decide) (by decide) (by decide) (Nat.le_of_ble_eq_true rfl) (Nat.le_of_ble_eq_true rfl) dX7_init_15 (fun q15 H hP hD hS => ?_)
  have hP : va_P D vwCl [(h, .inr (6, [.int 0, .ref q7, .int 0, .null, .int 0, .null, .null, .int 0, .int 0, .null, .null, .int 0, .null, .long 0])), (q7, .inl (cI, 24, .inl (fun _ => 0))), (q15, .inl (cI, 108, .inl (fun _ => 0)))] H := hP
  have hD : va_D A [(h, .inr (6, [.int 0, .ref q7, .int 0, .null, .int 0, .null, .null, .int 0, .int 0, .null, .null, .int 0, .null, .long 0])), (q7, .inl (cI, 24, .inl (fun _ => 0))), (q15, .inl (cI, 108, .inl (fun _ => 0)))] := hD
  refine va_putF (D := D) (ci := 6) (v := .ref q15) (ty := .array .int) (C := RX7) (T := TX7) (N := 14) hx hb hts iw_X7_init_X7 tyX7 tyX7_ok nmX7 hown hK hP hD hS 0 rfl rfl 3 (by decide) (hts (.fieldLink RX7 13 "PassedDutiesModel" "reaches" "[I") (by decide +kernel)) (fun _ h9 => h9) rfl hin rfl (by decide +kernel) rfl rfl (Nat.le_of_ble_eq_true rfl) dX7_init_17 (fun H locs hP hD hS => ?_)
  have hP : va_P D vwCl [(h, .inr (6, [.int 0, .ref q7, .int 0, .ref q15, .int 0, .null, .null, .int 0, .int 0, .null, .null, .int 0, .null, .long 0])), (q7, .inl (cI, 24, .inl (fun _ => 0))), (q15, .inl (cI, 108, .inl (fun _ => 0)))] H := hP
  have hD : va_D A [(h, .inr (6, [.int 0, .ref q7, .int 0, .ref q15, .int 0, .null, .null, .int 0, .int 0, .null, .null, .int 0, .null, .long 0])), (q7, .inl (cI, 24, .inl (fun _ => 0))), (q15, .inl (cI, 108, .inl (fun _ => 0)))] := hD
  refine lv_aload_n hx hb dX7_init_20 rfl (lv_at hl 0 rfl) ?_
  refine lv_bipush (v := 8) hx hb dX7_init_21 (by decide) ?_
  refine jx_newI (N := 8) hx hb (hts (.arrayClass .int) (by decide +kernel)) hK hP hD hS hA (by decide) (by decide) (by decide) (Nat.le_of_ble_eq_true rfl) (Nat.le_of_ble_eq_true rfl) dX7_init_23 (fun q23 H hP hD hS => ?_)
  have hP : va_P D vwCl [(h, .inr (6, [.int 0, .ref q7, .int 0, .ref q15, .int 0, .null, .null, .int 0, .int 0, .null, .null, .int 0, .null, .long 0])), (q7, .inl (cI, 24, .inl (fun _ => 0))), (q15, .inl (cI, 108, .inl (fun _ => 0))), (q23, .inl (cI, 8, .inl (fun _ => 0)))] H := hP
  have hD : va_D A [(h, .inr (6, [.int 0, .ref q7, .int 0, .ref q15, .int 0, .null, .null, .int 0, .int 0, .null, .null, .int 0, .null, .long 0])), (q7, .inl (cI, 24, .inl (fun _ => 0))), (q15, .inl (cI, 108, .inl (fun _ => 0))), (q23, .inl (cI, 8, .inl (fun _ => 0)))] := hD
  refine va_putF (D := D) (ci := 6) (v := .ref q23) (ty := .array .int) (C := RX7) (T := TX7) (N := 14) hx hb hts iw_X7_init_X7 tyX7 tyX7_ok nmX7 hown hK hP hD hS 0 rfl rfl 5 (by decide) (hts (.fieldLink RX7 16 "PassedDutiesModel" "termsOf" "[I") (by decide +kernel)) (fun _ h9 => h9) rfl hin rfl (by decide +kernel) rfl rfl (Nat.le_of_ble_eq_true rfl) dX7_init_25 (fun H locs hP hD hS => ?_)
  have hP : va_P D vwCl [(h, .inr (6, [.int 0, .ref q7, .int 0, .ref q15, .int 0, .ref q23, .null, .int 0, .int 0, .null, .null, .int 0, .null, .long 0])), (q7, .inl (cI, 24, .inl (fun _ => 0))), (q15, .inl (cI, 108, .inl (fun _ => 0))), (q23, .inl (cI, 8, .inl (fun _ => 0)))] H := hP
  have hD : va_D A [(h, .inr (6, [.int 0, .ref q7, .int 0, .ref q15, .int 0, .ref q23, .null, .int 0, .int 0, .null, .null, .int 0, .null, .long 0])), (q7, .inl (cI, 24, .inl (fun _ => 0))), (q15, .inl (cI, 108, .inl (fun _ => 0))), (q23, .inl (cI, 8, .inl (fun _ => 0)))] := hD
  refine lv_aload_n hx hb dX7_init_28 rfl (lv_at hl 0 rfl) ?_
  refine lv_bipush (v := 64) hx hb dX7_init_29 (by decide) ?_
  refine jx_newI (N := 64) hx hb (hts (.arrayClass .int) (by decide +kernel)) hK hP hD hS hA (by decide) (by decide) (by decide) (Nat.le_of_ble_eq_true rfl) (Nat.le_of_ble_eq_true rfl) dX7_init_31 (fun q31 H hP hD hS => ?_)
  have hP : va_P D vwCl [(h, .inr (6, [.int 0, .ref q7, .int 0, .ref q15, .int 0, .ref q23, .null, .int 0, .int 0, .null, .null, .int 0, .null, .long 0])), (q7, .inl (cI, 24, .inl (fun _ => 0))), (q15, .inl (cI, 108, .inl (fun _ => 0))), (q23, .inl (cI, 8, .inl (fun _ => 0))), (q31, .inl (cI, 64, .inl (fun _ => 0)))] H := hP
  have hD : va_D A [(h, .inr (6, [.int 0, .ref q7, .int 0, .ref q15, .int 0, .ref q23, .null, .int 0, .int 0, .null, .null, .int 0, .null, .long 0])), (q7, .inl (cI, 24, .inl (fun _ => 0))), (q15, .inl (cI, 108, .inl (fun _ => 0))), (q23, .inl (cI, 8, .inl (fun _ => 0))), (q31, .inl (cI, 64, .inl (fun _ => 0)))] := hD
  refine va_putF (D := D) (ci := 6) (v := .ref q31) (ty := .array .int) (C := RX7) (T := TX7) (N := 14) hx hb hts iw_X7_init_X7 tyX7 tyX7_ok nmX7 hown hK hP hD hS 0 rfl rfl 6 (by decide) (hts (.fieldLink RX7 19 "PassedDutiesModel" "kinds" "[I") (by decide +kernel)) (fun _ h9 => h9) rfl hin rfl (by decide +kernel) rfl rfl (Nat.le_of_ble_eq_true rfl) dX7_init_33 (fun H locs hP hD hS => ?_)
  have hP : va_P D vwCl [(h, .inr (6, [.int 0, .ref q7, .int 0, .ref q15, .int 0, .ref q23, .ref q31, .int 0, .int 0, .null, .null, .int 0, .null, .long 0])), (q7, .inl (cI, 24, .inl (fun _ => 0))), (q15, .inl (cI, 108, .inl (fun _ => 0))), (q23, .inl (cI, 8, .inl (fun _ => 0))), (q31, .inl (cI, 64, .inl (fun _ => 0)))] H := hP
  have hD : va_D A [(h, .inr (6, [.int 0, .ref q7, .int 0, .ref q15, .int 0, .ref q23, .ref q31, .int 0, .int 0, .null, .null, .int 0, .null, .long 0])), (q7, .inl (cI, 24, .inl (fun _ => 0))), (q15, .inl (cI, 108, .inl (fun _ => 0))), (q23, .inl (cI, 8, .inl (fun _ => 0))), (q31, .inl (cI, 64, .inl (fun _ => 0)))] := hD
  refine lv_aload_n hx hb dX7_init_36 rfl (lv_at hl 0 rfl) ?_
  refine lv_bipush (v := 8) hx hb dX7_init_37 (by decide) ?_
  refine jx_newI (N := 8) hx hb (hts (.arrayClass .int) (by decide +kernel)) hK hP hD hS hA (by decide) (by decide) (by decide) (Nat.le_of_ble_eq_true rfl) (Nat.le_of_ble_eq_true rfl) dX7_init_39 (fun q39 H hP hD hS => ?_)
  have hP : va_P D vwCl [(h, .inr (6, [.int 0, .ref q7, .int 0, .ref q15, .int 0, .ref q23, .ref q31, .int 0, .int 0, .null, .null, .int 0, .null, .long 0])), (q7, .inl (cI, 24, .inl (fun _ => 0))), (q15, .inl (cI, 108, .inl (fun _ => 0))), (q23, .inl (cI, 8, .inl (fun _ => 0))), (q31, .inl (cI, 64, .inl (fun _ => 0))), (q39, .inl (cI, 8, .inl (fun _ => 0)))] H := hP
  have hD : va_D A [(h, .inr (6, [.int 0, .ref q7, .int 0, .ref q15, .int 0, .ref q23, .ref q31, .int 0, .int 0, .null, .null, .int 0, .null, .long 0])), (q7, .inl (cI, 24, .inl (fun _ => 0))), (q15, .inl (cI, 108, .inl (fun _ => 0))), (q23, .inl (cI, 8, .inl (fun _ => 0))), (q31, .inl (cI, 64, .inl (fun _ => 0))), (q39, .inl (cI, 8, .inl (fun _ => 0)))] := hD
  refine va_putF (D := D) (ci := 6) (v := .ref q39) (ty := .array .int) (C := RX7) (T := TX7) (N := 14) hx hb hts iw_X7_init_X7 tyX7 tyX7_ok nmX7 hown hK hP hD hS 0 rfl rfl 9 (by decide) (hts (.fieldLink RX7 22 "PassedDutiesModel" "wayAt" "[I") (by decide +kernel)) (fun _ h9 => h9) rfl hin rfl (by decide +kernel) rfl rfl (Nat.le_of_ble_eq_true rfl) dX7_init_41 (fun H locs hP hD hS => ?_)
  have hP : va_P D vwCl [(h, .inr (6, [.int 0, .ref q7, .int 0, .ref q15, .int 0, .ref q23, .ref q31, .int 0, .int 0, .ref q39, .null, .int 0, .null, .long 0])), (q7, .inl (cI, 24, .inl (fun _ => 0))), (q15, .inl (cI, 108, .inl (fun _ => 0))), (q23, .inl (cI, 8, .inl (fun _ => 0))), (q31, .inl (cI, 64, .inl (fun _ => 0))), (q39, .inl (cI, 8, .inl (fun _ => 0)))] H := hP
  have hD : va_D A [(h, .inr (6, [.int 0, .ref q7, .int 0, .ref q15, .int 0, .ref q23, .ref q31, .int 0, .int 0, .ref q39, .null, .int 0, .null, .long 0])), (q7, .inl (cI, 24, .inl (fun _ => 0))), (q15, .inl (cI, 108, .inl (fun _ => 0))), (q23, .inl (cI, 8, .inl (fun _ => 0))), (q31, .inl (cI, 64, .inl (fun _ => 0))), (q39, .inl (cI, 8, .inl (fun _ => 0)))] := hD
  refine lv_aload_n hx hb dX7_init_44 rfl (lv_at hl 0 rfl) ?_
  refine lv_bipush (v := 8) hx hb dX7_init_45 (by decide) ?_
  refine jx_newI (N := 8) hx hb (hts (.arrayClass .int) (by decide +kernel)) hK hP hD hS hA (by decide) (by decide) (by decide) (Nat.le_of_ble_eq_true rfl) (Nat.le_of_ble_eq_true rfl) dX7_init_47 (fun q47 H hP hD hS => ?_)
  have hP : va_P D vwCl [(h, .inr (6, [.int 0, .ref q7, .int 0, .ref q15, .int 0, .ref q23, .ref q31, .int 0, .int 0, .ref q39, .null, .int 0, .null, .long 0])), (q7, .inl (cI, 24, .inl (fun _ => 0))), (q15, .inl (cI, 108, .inl (fun _ => 0))), (q23, .inl (cI, 8, .inl (fun _ => 0))), (q31, .inl (cI, 64, .inl (fun _ => 0))), (q39, .inl (cI, 8, .inl (fun _ => 0))), (q47, .inl (cI, 8, .inl (fun _ => 0)))] H := hP
  have hD : va_D A [(h, .inr (6, [.int 0, .ref q7, .int 0, .ref q15, .int 0, .ref q23, .ref q31, .int 0, .int 0, .ref q39, .null, .int 0, .null, .long 0])), (q7, .inl (cI, 24, .inl (fun _ => 0))), (q15, .inl (cI, 108, .inl (fun _ => 0))), (q23, .inl (cI, 8, .inl (fun _ => 0))), (q31, .inl (cI, 64, .inl (fun _ => 0))), (q39, .inl (cI, 8, .inl (fun _ => 0))), (q47, .inl (cI, 8, .inl (fun _ => 0)))] := hD
  refine va_putF (D := D) (ci := 6) (v := .ref q47) (ty := .array .int) (C := RX7) (T := TX7) (N := 14) hx hb hts iw_X7_init_X7 tyX7 tyX7_ok nmX7 hown hK hP hD hS 0 rfl rfl 10 (by decide) (hts (.fieldLink RX7 25 "PassedDutiesModel" "far" "[I") (by decide +kernel)) (fun _ h9 => h9) rfl hin rfl (by decide +kernel) rfl rfl (Nat.le_of_ble_eq_true rfl) dX7_init_49 (fun H locs hP hD hS => ?_)
  have hP : va_P D vwCl [(h, .inr (6, [.int 0, .ref q7, .int 0, .ref q15, .int 0, .ref q23, .ref q31, .int 0, .int 0, .ref q39, .ref q47, .int 0, .null, .long 0])), (q7, .inl (cI, 24, .inl (fun _ => 0))), (q15, .inl (cI, 108, .inl (fun _ => 0))), (q23, .inl (cI, 8, .inl (fun _ => 0))), (q31, .inl (cI, 64, .inl (fun _ => 0))), (q39, .inl (cI, 8, .inl (fun _ => 0))), (q47, .inl (cI, 8, .inl (fun _ => 0)))] H := hP
  have hD : va_D A [(h, .inr (6, [.int 0, .ref q7, .int 0, .ref q15, .int 0, .ref q23, .ref q31, .int 0, .int 0, .ref q39, .ref q47, .int 0, .null, .long 0])), (q7, .inl (cI, 24, .inl (fun _ => 0))), (q15, .inl (cI, 108, .inl (fun _ => 0))), (q23, .inl (cI, 8, .inl (fun _ => 0))), (q31, .inl (cI, 64, .inl (fun _ => 0))), (q39, .inl (cI, 8, .inl (fun _ => 0))), (q47, .inl (cI, 8, .inl (fun _ => 0)))] := hD
  refine lv_aload_n hx hb dX7_init_52 rfl (lv_at hl 0 rfl) ?_
  refine lv_bipush (v := 48) hx hb dX7_init_53 (by decide) ?_
  refine jx_newI (N := 48) hx hb (hts (.arrayClass .int) (by decide +kernel)) hK hP hD hS hA (by decide) (by decide) (by decide) (Nat.le_of_ble_eq_true rfl) (Nat.le_of_ble_eq_true rfl) dX7_init_55 (fun q55 H hP hD hS => ?_)
  have hP : va_P D vwCl [(h, .inr (6, [.int 0, .ref q7, .int 0, .ref q15, .int 0, .ref q23, .ref q31, .int 0, .int 0, .ref q39, .ref q47, .int 0, .null, .long 0])), (q7, .inl (cI, 24, .inl (fun _ => 0))), (q15, .inl (cI, 108, .inl (fun _ => 0))), (q23, .inl (cI, 8, .inl (fun _ => 0))), (q31, .inl (cI, 64, .inl (fun _ => 0))), (q39, .inl (cI, 8, .inl (fun _ => 0))), (q47, .inl (cI, 8, .inl (fun _ => 0))), (q55, .inl (cI, 48, .inl (fun _ => 0)))] H := hP
  have hD : va_D A [(h, .inr (6, [.int 0, .ref q7, .int 0, .ref q15, .int 0, .ref q23, .ref q31, .int 0, .int 0, .ref q39, .ref q47, .int 0, .null, .long 0])), (q7, .inl (cI, 24, .inl (fun _ => 0))), (q15, .inl (cI, 108, .inl (fun _ => 0))), (q23, .inl (cI, 8, .inl (fun _ => 0))), (q31, .inl (cI, 64, .inl (fun _ => 0))), (q39, .inl (cI, 8, .inl (fun _ => 0))), (q47, .inl (cI, 8, .inl (fun _ => 0))), (q55, .inl (cI, 48, .inl (fun _ => 0)))] := hD
  refine va_putF (D := D) (ci := 6) (v := .ref q55) (ty := .array .int) (C := RX7) (T := TX7) (N := 14) hx hb hts iw_X7_init_X7 tyX7 tyX7_ok nmX7 hown hK hP hD hS 0 rfl rfl 12 (by decide) (hts (.fieldLink RX7 28 "PassedDutiesModel" "clashAt" "[I") (by decide +kernel)) (fun _ h9 => h9) rfl hin rfl (by decide +kernel) rfl rfl (Nat.le_of_ble_eq_true rfl) dX7_init_57 (fun H locs hP hD hS => ?_)
  have hP : va_P D vwCl [(h, .inr (6, [.int 0, .ref q7, .int 0, .ref q15, .int 0, .ref q23, .ref q31, .int 0, .int 0, .ref q39, .ref q47, .int 0, .ref q55, .long 0])), (q7, .inl (cI, 24, .inl (fun _ => 0))), (q15, .inl (cI, 108, .inl (fun _ => 0))), (q23, .inl (cI, 8, .inl (fun _ => 0))), (q31, .inl (cI, 64, .inl (fun _ => 0))), (q39, .inl (cI, 8, .inl (fun _ => 0))), (q47, .inl (cI, 8, .inl (fun _ => 0))), (q55, .inl (cI, 48, .inl (fun _ => 0)))] H := hP
  have hD : va_D A [(h, .inr (6, [.int 0, .ref q7, .int 0, .ref q15, .int 0, .ref q23, .ref q31, .int 0, .int 0, .ref q39, .ref q47, .int 0, .ref q55, .long 0])), (q7, .inl (cI, 24, .inl (fun _ => 0))), (q15, .inl (cI, 108, .inl (fun _ => 0))), (q23, .inl (cI, 8, .inl (fun _ => 0))), (q31, .inl (cI, 64, .inl (fun _ => 0))), (q39, .inl (cI, 8, .inl (fun _ => 0))), (q47, .inl (cI, 8, .inl (fun _ => 0))), (q55, .inl (cI, 48, .inl (fun _ => 0)))] := hD
  exact jx_retc (fun k => ([q7, q15, q23, q31, q39, q47, q55] : List Nat).getD k 0) hx hb hr hlocks hK hP hD hS dX7_init_60
