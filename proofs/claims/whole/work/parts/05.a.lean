def pf_X6_isSet (p0 : Int64) (p1 : Int32) : Option Int32 :=
  (if (lg_cmp ((p0 >>> ((p1).toInt64 &&& 63)) &&& (1 : Int64)) (0 : Int64)) = 0 then some (0 : Int32) else some (1 : Int32))
set_option maxHeartbeats 4000000 in
set_option maxRecDepth 100000 in
theorem c_X6_isSet (l : Launch) (D : va_G) (a : Nat → Nat) (cI cL : ClassId) (p0 : Int64) (p1 : Int32) (res : Int32) (hf : pf_X6_isSet p0 p1 = some res) : jMi l yX6_isSet wsX6_isSet ({ frames := 0, cells := 0, slots := 0, locals := 0 }) D [(cI, .int), (cL, .long)] [.long p0, .int p1] (wE a cI cL) res (wE a cI cL) := by
  intro sz
  refine Met.ofW (cc := cX6_isSet) (maxL := 3) (ret := (some .boolean)) (by decide) rfl ?_
  intro p e s m args below meth c s₁ B hml hv
  obtain ⟨rfl, hsz, hP, hK, hD0, hN⟩ := hv
  have hx := B.exec
  have hb := B.bytes
  have hr := B.returns
  have hts := atoms_spec (ws := wsX6_isSet) B.pre
  have hown : s.vm.findClass RX6 = some m.cls := findClass_of_methodNamed B.named
  have hlocks := B.notSynchronized
  subst hsz
  have hD := hD0.self (sz := s.heap.size)
  generalize hAe : va_A (wE a cI cL) s.heap.size = A at hD ⊢
  have hA : ∀ q : Nat, s.heap.size ≤ q → A q := fun q h => by rw [← hAe]; exact Or.inr h
  have hS : va_S A s.heap s.heap [] := va_S.rf
  have hl := lv_entry ([.long p0, .int p1]) (n := 3) (Nat.le_of_ble_eq_true rfl)
  rw [lg_entry_eq]
  generalize (lg_sl ([.long p0, .int p1]) ++ List.replicate (3 - (lg_sl ([.long p0, .int p1])).length) Slot.unset).toArray = ls at hl ⊢
  have hl : lv_has ls 3 [(0, .long p0), (2, .int p1)] := hl
  have hf : pf_X6_isSet p0 p1 = some res := hf
  refine lv_lload_n hx hb dX6_isSet_0 rfl (lv_at hl 0 rfl) ?_
  refine lv_iload_n hx hb dX6_isSet_1 rfl (lv_at hl 1 rfl) ?_
  refine lv_lshr (v := (p0 >>> ((p1).toInt64 &&& 63))) hx hb dX6_isSet_2 rfl ?_
  refine lv_lconst (v := 1) hx hb dX6_isSet_3 (by decide) ?_
  refine lv_land hx hb dX6_isSet_4 ?_
  refine lv_lconst (v := 0) hx hb dX6_isSet_5 (by decide) ?_
  refine W.lcmp hx hb dX6_isSet_6 ?_
  refine W.eq (g2 := F0 m 7 ls [.int (lg_cmp ((p0 >>> ((p1).toInt64 &&& 63)) &&& (1 : Int64)) (0 : Int64))]) rfl ?_
  refine lv_if_eq (tgt := 14) hx hb dX6_isSet_7 (by decide) (fun hq => ?_) (fun hq => ?_)
  · replace hf := jx_pos hq hf
    refine lv_iconst (v := 0) hx hb dX6_isSet_14 (by decide) ?_
    have he := jx_eq hf
    subst he
    exact jx_retz hx hb hr hlocks narrow_b0 rfl hK hP hD hS dX6_isSet_15
  · replace hf := jx_neg hq hf
    refine lv_iconst (v := 1) hx hb dX6_isSet_10 (by decide) ?_
    refine lv_goto (tgt := 15) hx hb dX6_isSet_11 (by decide) ?_
    have he := jx_eq hf
    subst he
    exact jx_retz hx hb hr hlocks narrow_b1 rfl hK hP hD hS dX6_isSet_15
def pf_X6_isItem (p0 : Int32) : Option Int32 :=
  (if p0 < 0 then some (0 : Int32) else (if (12 : Int32) ≤ p0 then some (0 : Int32) else some (1 : Int32)))
set_option maxHeartbeats 4000000 in
set_option maxRecDepth 100000 in
theorem c_X6_isItem (l : Launch) (D : va_G) (a : Nat → Nat) (cI cL : ClassId) (p0 : Int32) (res : Int32) (hf : pf_X6_isItem p0 = some res) : jMi l yX6_isItem wsX6_isItem ({ frames := 0, cells := 0, slots := 0, locals := 0 }) D [(cI, .int), (cL, .long)] [.int p0] (wE a cI cL) res (wE a cI cL) := by
  intro sz
  refine Met.ofW (cc := cX6_isItem) (maxL := 1) (ret := (some .boolean)) (by decide) rfl ?_
  intro p e s m args below meth c s₁ B hml hv
  obtain ⟨rfl, hsz, hP, hK, hD0, hN⟩ := hv
  have hx := B.exec
  have hb := B.bytes
  have hr := B.returns
  have hts := atoms_spec (ws := wsX6_isItem) B.pre
  have hown : s.vm.findClass RX6 = some m.cls := findClass_of_methodNamed B.named
  have hlocks := B.notSynchronized
  subst hsz
  have hD := hD0.self (sz := s.heap.size)
  generalize hAe : va_A (wE a cI cL) s.heap.size = A at hD ⊢
  have hA : ∀ q : Nat, s.heap.size ≤ q → A q := fun q h => by rw [← hAe]; exact Or.inr h
  have hS : va_S A s.heap s.heap [] := va_S.rf
  have hl := lv_entry ([.int p0]) (n := 1) (Nat.le_of_ble_eq_true rfl)
  rw [lg_entry_eq]
  generalize (lg_sl ([.int p0]) ++ List.replicate (1 - (lg_sl ([.int p0])).length) Slot.unset).toArray = ls at hl ⊢
  have hl : lv_has ls 1 [(0, .int p0)] := hl
  have hf : pf_X6_isItem p0 = some res := hf
  refine lv_iload_n hx hb dX6_isItem_0 rfl (lv_at hl 0 rfl) ?_
  refine lv_if_lt (tgt := 14) hx hb dX6_isItem_1 (by decide) (fun hq => ?_) (fun hq => ?_)
  · replace hf := jx_pos hq hf
    refine lv_iconst (v := 0) hx hb dX6_isItem_14 (by decide) ?_
    have he := jx_eq hf
    subst he
    exact jx_retz hx hb hr hlocks narrow_b0 rfl hK hP hD hS dX6_isItem_15
  · replace hf := jx_neg hq hf
    refine lv_iload_n hx hb dX6_isItem_4 rfl (lv_at hl 0 rfl) ?_
    refine lv_bipush (v := 12) hx hb dX6_isItem_5 (by decide) ?_
    refine lv_icmp_ge (tgt := 14) hx hb dX6_isItem_7 (by decide) (fun hq => ?_) (fun hq => ?_)
    · replace hf := jx_pos hq hf
      refine lv_iconst (v := 0) hx hb dX6_isItem_14 (by decide) ?_
      have he := jx_eq hf
      subst he
      exact jx_retz hx hb hr hlocks narrow_b0 rfl hK hP hD hS dX6_isItem_15
    · replace hf := jx_neg hq hf
      refine lv_iconst (v := 1) hx hb dX6_isItem_10 (by decide) ?_
      refine lv_goto (tgt := 15) hx hb dX6_isItem_11 (by decide) ?_
      have he := jx_eq hf
      subst he
      exact jx_retz hx hb hr hlocks narrow_b1 rfl hK hP hD hS dX6_isItem_15
def pf_X6_mix (p0 : Int64) (p1 : Int64) : Option Int64 :=
  some (((31 : Int64) * p0) + p1)
set_option maxHeartbeats 4000000 in
set_option maxRecDepth 100000 in
theorem c_X6_mix (l : Launch) (D : va_G) (a : Nat → Nat) (cI cL : ClassId) (p0 : Int64) (p1 : Int64) (res : Int64) (hf : pf_X6_mix p0 p1 = some res) : jMl l yX6_mix wsX6_mix ({ frames := 0, cells := 0, slots := 0, locals := 0 }) D [(cI, .int), (cL, .long)] [.long p0, .long p1] (wE a cI cL) res (wE a cI cL) := by
  intro sz
  refine Met.ofW (cc := cX6_mix) (maxL := 4) (ret := (some .long)) (by decide) rfl ?_
  intro p e s m args below meth c s₁ B hml hv
  obtain ⟨rfl, hsz, hP, hK, hD0, hN⟩ := hv
  have hx := B.exec
  have hb := B.bytes
  have hr := B.returns
  have hts := atoms_spec (ws := wsX6_mix) B.pre
  have hown : s.vm.findClass RX6 = some m.cls := findClass_of_methodNamed B.named
  have hlocks := B.notSynchronized
  subst hsz
  have hD := hD0.self (sz := s.heap.size)
  generalize hAe : va_A (wE a cI cL) s.heap.size = A at hD ⊢
  have hA : ∀ q : Nat, s.heap.size ≤ q → A q := fun q h => by rw [← hAe]; exact Or.inr h
  have hS : va_S A s.heap s.heap [] := va_S.rf
  have hl := lv_entry ([.long p0, .long p1]) (n := 4) (Nat.le_of_ble_eq_true rfl)
  rw [lg_entry_eq]
  generalize (lg_sl ([.long p0, .long p1]) ++ List.replicate (4 - (lg_sl ([.long p0, .long p1])).length) Slot.unset).toArray = ls at hl ⊢
  have hl : lv_has ls 4 [(0, .long p0), (2, .long p1)] := hl
  have hf : pf_X6_mix p0 p1 = some res := hf
  refine lv_ldc2 (v := 31) hx hb hown (hts (.constantLong RX6 222 (31)) (by decide +kernel)) dX6_mix_0 ?_
  refine lv_lload_n hx hb dX6_mix_3 rfl (lv_at hl 0 rfl) ?_
  refine lv_lmul hx hb dX6_mix_4 ?_
  refine lv_lload_n hx hb dX6_mix_5 rfl (lv_at hl 1 rfl) ?_
  refine lv_ladd hx hb dX6_mix_6 ?_
  have he := jx_eq hf
  subst he
  exact jx_retl hx hb hr hlocks rfl hK hP hD hS dX6_mix_7
def pf_X4_greatest_s1 (p0 : Int64) (p1 : Int32) : Int32 → Option (Int32 ⊕ (Unit ⊕ Int32)) := fun s1 =>
  (if s1 < (1 : Int32) then some (.inr (.inl ())) else (pf_X6_isSet p0 (((s1 - (1 : Int32)) * (12 : Int32)) + p1)).bind fun r4 => (if r4 = 0 then some (.inl (s1 + (-1 : Int32))) else some (.inr (.inr s1))))
def pf_X4_greatest (p0 : Int64) (p1 : Int32) : Option Int32 :=
  (jx_iter (pf_X4_greatest_s1 p0 p1) jx_F (3 : Int32)).bind fun k2 => Sum.elim (fun xk2 => some (0 : Int32)) (fun y => some y) k2
set_option maxHeartbeats 4000000 in
set_option maxRecDepth 100000 in
theorem c_X4_greatest (l : Launch) (D : va_G) (a : Nat → Nat) (cI cL : ClassId) (p0 : Int64) (p1 : Int32) (res : Int32) (hf : pf_X4_greatest p0 p1 = some res) : jMi l yX4_greatest wsX4_greatest ({ frames := 1, cells := 0, slots := 0, locals := 22 }) D [(cI, .int), (cL, .long)] [.long p0, .int p1] (wE a cI cL) res (wE a cI cL) := by
  intro sz
  refine Met.ofW (cc := cX4_greatest) (maxL := 4) (ret := (some .int)) (by decide) rfl ?_
  intro p e s m args below meth c s₁ B hml hv
  obtain ⟨rfl, hsz, hP, hK, hD0, hN⟩ := hv
  have hx := B.exec
  have hb := B.bytes
  have hr := B.returns
  have hts := atoms_spec (ws := wsX4_greatest) B.pre
  have hown : s.vm.findClass RX4 = some m.cls := findClass_of_methodNamed B.named
  have hlocks := B.notSynchronized
  subst hsz
  have hD := hD0.self (sz := s.heap.size)
  generalize hAe : va_A (wE a cI cL) s.heap.size = A at hD ⊢
  have hA : ∀ q : Nat, s.heap.size ≤ q → A q := fun q h => by rw [← hAe]; exact Or.inr h
  have hS : va_S A s.heap s.heap [] := va_S.rf
  have hl := lv_entry ([.long p0, .int p1]) (n := 4) (Nat.le_of_ble_eq_true rfl)
  rw [lg_entry_eq]
  generalize (lg_sl ([.long p0, .int p1]) ++ List.replicate (4 - (lg_sl ([.long p0, .int p1])).length) Slot.unset).toArray = ls at hl ⊢
  have hl : lv_has ls 4 [(0, .long p0), (2, .int p1)] := hl
  have hf : pf_X4_greatest p0 p1 = some res := hf
  refine lv_iconst (v := 3) hx hb dX4_greatest_0 (by decide) ?_
  refine lv_istore_n (lv' := [(3, .int (3 : Int32)), (0, .long p0), (2, .int p1)]) hx hb dX4_greatest_1 rfl hl (by decide) rfl (fun ls hl => ?_)
  obtain ⟨k2, hf, hkk2⟩ := jx_bs hf
  have hXk2 : ∀ (xk2 : Unit), k2 = Sum.inl xk2 → ∀ (H : Heap) (locs : List Loc) (ls : Array Slot), va_P D vwCl (wE a cI cL) H → va_D A (wE a cI cL) → va_S A s.heap H locs → lv_has ls 4 [] → jx_Wi p l e wsX4_greatest ({ frames := 1, cells := 0, slots := 0, locals := 22 }) s m [.long p0, .int p1] below meth c D [(cI, .int), (cL, .long)] res (wE a cI cL) A H locs (F0 m 30 ls []) := by
    clear hf hP hD hS hl
    intro xk2 he H locs ls hP hD hS hl
    subst he
    have hf := hkk2
    refine lv_iconst (v := 0) hx hb dX4_greatest_30 (by decide) ?_
    have he := jx_eq hf
    subst he
    exact jx_reti hx hb hr hlocks rfl hK hP hD hS dX4_greatest_31
  have hLk2 : ∀ (n : Nat) (s1 : Int32) (H : Heap) (locs : List Loc) (ls : Array Slot), jx_iter (pf_X4_greatest_s1 p0 p1) n s1 = some k2 → va_P D vwCl (wE a cI cL) H → va_D A (wE a cI cL) → va_S A s.heap H locs → lv_has ls 4 [(0, .long p0), (2, .int p1), (3, .int s1)] → jx_Wi p l e wsX4_greatest ({ frames := 1, cells := 0, slots := 0, locals := 22 }) s m [.long p0, .int p1] below meth c D [(cI, .int), (cL, .long)] res (wE a cI cL) A H locs (F0 m 2 ls []) := by
    clear hf hP hD hS hl
    intro n
    induction n with
    | zero => intro s1 H locs ls hf; cases hf
    | succ n ihk2 =>
      intro s1 H locs ls hf hP hD hS hl
      obtain ⟨q3, hf, hgk2⟩ := jx_bs hf
      refine lv_iload_n hx hb dX4_greatest_2 rfl (lv_at hl 2 rfl) ?_
      refine lv_iconst (v := 1) hx hb dX4_greatest_3 (by decide) ?_
      refine lv_icmp_lt (tgt := 30) hx hb dX4_greatest_4 (by decide) (fun hq => ?_) (fun hq => ?_)
      · replace hf := jx_pos hq hf
        have he := jx_eq hf
        subst he
        have he : Sum.inl _ = k2 := jx_eq hgk2
        subst he
        exact hXk2 _ rfl H locs ls hP hD hS (lv_sub hl [] rfl)
      · replace hf := jx_neg hq hf
        refine lv_lload_n hx hb dX4_greatest_7 rfl (lv_at hl 0 rfl) ?_
        refine lv_iload_n hx hb dX4_greatest_8 rfl (lv_at hl 2 rfl) ?_
        refine lv_iconst (v := 1) hx hb dX4_greatest_9 (by decide) ?_
        refine lv_isub hx hb dX4_greatest_10 ?_
        refine lv_bipush (v := 12) hx hb dX4_greatest_11 (by decide) ?_
        refine lv_imul hx hb dX4_greatest_13 ?_
        refine lv_iload_n hx hb dX4_greatest_14 rfl (lv_at hl 1 rfl) ?_
        refine lv_iadd hx hb dX4_greatest_15 ?_
        obtain ⟨r4, hc, hf⟩ := jx_bs hf
        refine jx_ki (wr := []) (ws2 := (wE a cI cL)) (jx_runSN (As := [.long p0, .int (((s1 - (1 : Int32)) * (12 : Int32)) + p1)]) (rest := []) ⟨hx, hb, hml, hown, hts⟩ (c_X6_isSet l D a cI cL p0 (((s1 - (1 : Int32)) * (12 : Int32)) + p1) r4 hc H.size) (va_cnB 2 hts gX4_greatest_X6_isSet_n9 rfl rfl rfl (hN (.methodLinkNest "PassedDuties$Reaches" 9 yX6_isSet "PassedDuties") (by decide +kernel)) (hts (.initialized RX6) (by decide +kernel)) (by decide +kernel) ⟨Nat.le_of_ble_eq_true rfl, Nat.le_of_ble_eq_true rfl⟩) (hts (.static yX6_isSet) (by decide +kernel)) hK hN hP hD [] rfl (by decide) rfl hl.1 rfl (Nat.le_of_ble_eq_true rfl) dX4_greatest_16 ⟨Nat.le_of_ble_eq_true rfl, Nat.le_of_ble_eq_true rfl⟩) hP hD hS hA [] [] [] rfl rfl (by decide) (by decide) rfl (by decide) (fun H locs hP hD hS => ?_)
        clear hc
        refine lv_if_eq (tgt := 24) hx hb dX4_greatest_19 (by decide) (fun hq => ?_) (fun hq => ?_)
        · replace hf := jx_pos hq hf
          refine lv_iinc (v := (s1 + (-1 : Int32))) (lv' := [(3, .int (s1 + (-1 : Int32))), (0, .long p0), (2, .int p1)]) hx hb dX4_greatest_24 hl (k := 2) rfl rfl (by decide) rfl (fun ls hl => ?_)
          refine lv_goto (tgt := 2) hx hb dX4_greatest_27 (by decide) ?_
          have he := jx_eq hf
          subst he
          exact ihk2 (s1 + (-1 : Int32)) H locs ls hgk2 hP hD hS (lv_sub hl [1, 2, 0] rfl)
        · replace hf := jx_neg hq hf
          refine lv_iload_n hx hb dX4_greatest_22 rfl (lv_at hl 2 rfl) ?_
          have he := jx_eq hf
          subst he
          have he : Sum.inr _ = k2 := jx_eq hgk2
          subst he
          have hf := hkk2
          have he := jx_eq hf
          subst he
          exact jx_reti hx hb hr hlocks rfl hK hP hD hS dX4_greatest_23
  exact hLk2 jx_F (3 : Int32) H locs ls hf hP hD hS (lv_sub hl [1, 2, 0] rfl)
def pf_X0_has (bs : Int32) (p0 : Int32) : Option Int32 :=
  (if p0 < 0 then some (0 : Int32) else (if bs ≤ p0 then some (0 : Int32) else some (1 : Int32)))
theorem iw_X0_has_X0 : ∀ w ∈ wsX00, w ∈ wsX0_has := by decide +kernel
set_option maxHeartbeats 4000000 in
set_option maxRecDepth 100000 in
theorem c_X0_has (l : Launch) (D : va_G) (a : Nat → Nat) (cI cL : ClassId) (bs : Int32) (br : (Nat → Int64)) (p0 : Int32) (res : Int32) (hf : pf_X0_has bs p0 = some res) : jMi l yX0_has wsX0_has ({ frames := 0, cells := 0, slots := 0, locals := 0 }) D [(cI, .int), (cL, .long)] [.ref (a 3), .int p0] (wBk a cI cL bs br) res (wBk a cI cL bs br) := by
  intro sz
  refine Met.ofW (cc := cX0_has) (maxL := 2) (ret := (some .boolean)) (by decide) rfl ?_
  intro p e s m args below meth c s₁ B hml hv
  obtain ⟨rfl, hsz, hP, hK, hD0, hN⟩ := hv
  have hx := B.exec
  have hb := B.bytes
  have hr := B.returns
  have hts := atoms_spec (ws := wsX0_has) B.pre
  have hown : s.vm.findClass RX0 = some m.cls := findClass_of_methodNamed B.named
  have hlocks := B.notSynchronized
  subst hsz
  have hD := hD0.self (sz := s.heap.size)
  generalize hAe : va_A (wBk a cI cL bs br) s.heap.size = A at hD ⊢
  have hA : ∀ q : Nat, s.heap.size ≤ q → A q := fun q h => by rw [← hAe]; exact Or.inr h
  have hS : va_S A s.heap s.heap [] := va_S.rf
  have hl := lv_entry ([.ref (a 3), .int p0]) (n := 2) (Nat.le_of_ble_eq_true rfl)
  rw [lg_entry_eq]
  generalize (lg_sl ([.ref (a 3), .int p0]) ++ List.replicate (2 - (lg_sl ([.ref (a 3), .int p0])).length) Slot.unset).toArray = ls at hl ⊢
  have hl : lv_has ls 2 [(0, .ref (a 3)), (1, .int p0)] := hl
  have hf : pf_X0_has bs p0 = some res := hf
  refine lv_iload_n hx hb dX0_has_0 rfl (lv_at hl 1 rfl) ?_
  refine lv_if_lt (tgt := 16) hx hb dX0_has_1 (by decide) (fun hq => ?_) (fun hq => ?_)
  · replace hf := jx_pos hq hf
    refine lv_iconst (v := 0) hx hb dX0_has_16 (by decide) ?_
    have he := jx_eq hf
    subst he
    exact jx_retz hx hb hr hlocks narrow_b0 rfl hK hP hD hS dX0_has_17
  · replace hf := jx_neg hq hf
    refine lv_iload_n hx hb dX0_has_4 rfl (lv_at hl 1 rfl) ?_
    refine lv_aload_n hx hb dX0_has_5 rfl (lv_at hl 0 rfl) ?_
    refine va_get (D := D) (ci := 0) (v := .int bs) (C := RX0) (T := TX0) (N := 2) hx hb hts iw_X0_has_X0 hown hK hP 0 rfl rfl 1 (by decide) (hts (.fieldLink RX0 15 "PassedDuties$Book" "size" "I") (by decide +kernel)) (fun _ h9 => h9) rfl dX0_has_6 ?_
    refine lv_icmp_ge (tgt := 16) hx hb dX0_has_9 (by decide) (fun hq => ?_) (fun hq => ?_)
    · replace hf := jx_pos hq hf
      refine lv_iconst (v := 0) hx hb dX0_has_16 (by decide) ?_
      have he := jx_eq hf
      subst he
      exact jx_retz hx hb hr hlocks narrow_b0 rfl hK hP hD hS dX0_has_17
    · replace hf := jx_neg hq hf
      refine lv_iconst (v := 1) hx hb dX0_has_12 (by decide) ?_
      refine lv_goto (tgt := 17) hx hb dX0_has_13 (by decide) ?_
      have he := jx_eq hf
      subst he
      exact jx_retz hx hb hr hlocks narrow_b1 rfl hK hP hD hS dX0_has_17
def pf_X0_find_s1 (bs : Int32) (br : (Nat → Int64)) (p0 : Int64) : Int32 → Option (Int32 ⊕ (Unit ⊕ Int32)) := fun s1 =>
  (if bs ≤ s1 then some (.inr (.inl ())) else (jx_gd (jx_in s1 8)).bind fun _ => (if ¬ (lg_cmp (br (s1).toNatClampNeg) p0) = 0 then some (.inl (s1 + (1 : Int32))) else some (.inr (.inr s1))))
def pf_X0_find (bs : Int32) (br : (Nat → Int64)) (p0 : Int64) : Option Int32 :=
  (jx_iter (pf_X0_find_s1 bs br p0) jx_F (0 : Int32)).bind fun k2 => Sum.elim (fun xk2 => some (-1 : Int32)) (fun y => some y) k2
theorem iw_X0_find_X0 : ∀ w ∈ wsX00, w ∈ wsX0_find := by decide +kernel
set_option maxHeartbeats 4000000 in
set_option maxRecDepth 100000 in
theorem c_X0_find (l : Launch) (D : va_G) (a : Nat → Nat) (cI cL : ClassId) (bs : Int32) (br : (Nat → Int64)) (p0 : Int64) (res : Int32) (hf : pf_X0_find bs br p0 = some res) : jMi l yX0_find wsX0_find ({ frames := 0, cells := 0, slots := 0, locals := 0 }) D [(cI, .int), (cL, .long)] [.ref (a 3), .long p0] (wBk a cI cL bs br) res (wBk a cI cL bs br) := by
  intro sz
  refine Met.ofW (cc := cX0_find) (maxL := 4) (ret := (some .int)) (by decide) rfl ?_
  intro p e s m args below meth c s₁ B hml hv
  obtain ⟨rfl, hsz, hP, hK, hD0, hN⟩ := hv
  have hx := B.exec
  have hb := B.bytes
  have hr := B.returns
  have hts := atoms_spec (ws := wsX0_find) B.pre
  have hown : s.vm.findClass RX0 = some m.cls := findClass_of_methodNamed B.named
  have hlocks := B.notSynchronized
  subst hsz
  have hD := hD0.self (sz := s.heap.size)
  generalize hAe : va_A (wBk a cI cL bs br) s.heap.size = A at hD ⊢
  have hA : ∀ q : Nat, s.heap.size ≤ q → A q := fun q h => by rw [← hAe]; exact Or.inr h
  have hS : va_S A s.heap s.heap [] := va_S.rf
  have hl := lv_entry ([.ref (a 3), .long p0]) (n := 4) (Nat.le_of_ble_eq_true rfl)
  rw [lg_entry_eq]
  generalize (lg_sl ([.ref (a 3), .long p0]) ++ List.replicate (4 - (lg_sl ([.ref (a 3), .long p0])).length) Slot.unset).toArray = ls at hl ⊢
  have hl : lv_has ls 4 [(0, .ref (a 3)), (1, .long p0)] := hl
  have hf : pf_X0_find bs br p0 = some res := hf
  refine lv_iconst (v := 0) hx hb dX0_find_0 (by decide) ?_
  refine lv_istore_n (lv' := [(3, .int (0 : Int32)), (0, .ref (a 3)), (1, .long p0)]) hx hb dX0_find_1 rfl hl (by decide) rfl (fun ls hl => ?_)
  obtain ⟨k2, hf, hkk2⟩ := jx_bs hf
  have hXk2 : ∀ (xk2 : Unit), k2 = Sum.inl xk2 → ∀ (H : Heap) (locs : List Loc) (ls : Array Slot), va_P D vwCl (wBk a cI cL bs br) H → va_D A (wBk a cI cL bs br) → va_S A s.heap H locs → lv_has ls 4 [] → jx_Wi p l e wsX0_find ({ frames := 0, cells := 0, slots := 0, locals := 0 }) s m [.ref (a 3), .long p0] below meth c D [(cI, .int), (cL, .long)] res (wBk a cI cL bs br) A H locs (F0 m 29 ls []) := by
    clear hf hP hD hS hl
    intro xk2 he H locs ls hP hD hS hl
    subst he
    have hf := hkk2
    refine lv_iconst (v := -1) hx hb dX0_find_29 (by decide) ?_
    have he := jx_eq hf
    subst he
    exact jx_reti hx hb hr hlocks rfl hK hP hD hS dX0_find_30
  have hLk2 : ∀ (n : Nat) (s1 : Int32) (H : Heap) (locs : List Loc) (ls : Array Slot), jx_iter (pf_X0_find_s1 bs br p0) n s1 = some k2 → va_P D vwCl (wBk a cI cL bs br) H → va_D A (wBk a cI cL bs br) → va_S A s.heap H locs → lv_has ls 4 [(0, .ref (a 3)), (1, .long p0), (3, .int s1)] → jx_Wi p l e wsX0_find ({ frames := 0, cells := 0, slots := 0, locals := 0 }) s m [.ref (a 3), .long p0] below meth c D [(cI, .int), (cL, .long)] res (wBk a cI cL bs br) A H locs (F0 m 2 ls []) := by
    clear hf hP hD hS hl
    intro n
    induction n with
    | zero => intro s1 H locs ls hf; cases hf
    | succ n ihk2 =>
      intro s1 H locs ls hf hP hD hS hl
      obtain ⟨q3, hf, hgk2⟩ := jx_bs hf
      refine lv_iload_n hx hb dX0_find_2 rfl (lv_at hl 2 rfl) ?_
      refine lv_aload_n hx hb dX0_find_3 rfl (lv_at hl 0 rfl) ?_
      refine va_get (D := D) (ci := 0) (v := .int bs) (C := RX0) (T := TX0) (N := 2) hx hb hts iw_X0_find_X0 hown hK hP 0 rfl rfl 1 (by decide) (hts (.fieldLink RX0 15 "PassedDuties$Book" "size" "I") (by decide +kernel)) (fun _ h9 => h9) rfl dX0_find_4 ?_
      refine lv_icmp_ge (tgt := 29) hx hb dX0_find_7 (by decide) (fun hq => ?_) (fun hq => ?_)
      · replace hf := jx_pos hq hf
        have he := jx_eq hf
        subst he
        have he : Sum.inl _ = k2 := jx_eq hgk2
        subst he
        exact hXk2 _ rfl H locs ls hP hD hS (lv_sub hl [] rfl)
      · replace hf := jx_neg hq hf
        refine lv_aload_n hx hb dX0_find_10 rfl (lv_at hl 0 rfl) ?_
        refine va_get (D := D) (ci := 0) (v := .ref (a 4)) (C := RX0) (T := TX0) (N := 2) hx hb hts iw_X0_find_X0 hown hK hP 0 rfl rfl 0 (by decide) (hts (.fieldLink RX0 9 "PassedDuties$Book" "rows" "[J") (by decide +kernel)) (fun _ h9 => h9) rfl dX0_find_11 ?_
        refine lv_iload_n hx hb dX0_find_14 rfl (lv_at hl 2 rfl) ?_
        obtain ⟨hi, hf⟩ := jx_gs hf
        refine va_lald hx hb hK hP 1 1 rfl rfl (jx_ip hi) dX0_find_15 ?_
        clear hi
        refine lv_lload_n hx hb dX0_find_16 rfl (lv_at hl 1 rfl) ?_
        refine W.lcmp hx hb dX0_find_17 ?_
        refine W.eq (g2 := F0 m 18 ls [.int (lg_cmp (br (s1).toNatClampNeg) p0)]) rfl ?_
        refine lv_if_ne (tgt := 23) hx hb dX0_find_18 (by decide) (fun hq => ?_) (fun hq => ?_)
        · replace hf := jx_pos hq hf
          refine lv_iinc (v := (s1 + (1 : Int32))) (lv' := [(3, .int (s1 + (1 : Int32))), (0, .ref (a 3)), (1, .long p0)]) hx hb dX0_find_23 hl (k := 2) rfl rfl (by decide) rfl (fun ls hl => ?_)
          refine lv_goto (tgt := 2) hx hb dX0_find_26 (by decide) ?_
          have he := jx_eq hf
          subst he
          exact ihk2 (s1 + (1 : Int32)) H locs ls hgk2 hP hD hS (lv_sub hl [1, 2, 0] rfl)
        · replace hf := jx_neg hq hf
          refine lv_iload_n hx hb dX0_find_21 rfl (lv_at hl 2 rfl) ?_
          have he := jx_eq hf
          subst he
          have he : Sum.inr _ = k2 := jx_eq hgk2
          subst he
          have hf := hkk2
          have he := jx_eq hf
          subst he
          exact jx_reti hx hb hr hlocks rfl hK hP hD hS dX0_find_22
  exact hLk2 jx_F (0 : Int32) H locs ls hf hP hD hS (lv_sub hl [1, 2, 0] rfl)
def pf_X0_numberFor (bs : Int32) (br : (Nat → Int64)) (p0 : Int64) : Option (Int32 × Int32 × (Nat → Int64)) :=
  (pf_X0_find bs br p0).bind fun r1 => (if ¬ r1 = (-1 : Int32) then some (r1, bs, br) else (if bs < (8 : Int32) then (jx_gd (jx_in bs 8)).bind fun _ => some (((bs + (1 : Int32)) - (1 : Int32)), (bs + (1 : Int32)), (vp_updL br (bs).toNatClampNeg p0)) else some (r1, bs, br)))
theorem iw_X0_numberFor_X0 : ∀ w ∈ wsX00, w ∈ wsX0_numberFor := by decide +kernel
set_option maxHeartbeats 4000000 in
set_option maxRecDepth 100000 in
theorem c_X0_numberFor (l : Launch) (D : va_G) (a : Nat → Nat) (cI cL : ClassId) (bs : Int32) (br : (Nat → Int64)) (p0 : Int64) (res : (Int32 × Int32 × (Nat → Int64))) (hf : pf_X0_numberFor bs br p0 = some res) : jMi l yX0_numberFor wsX0_numberFor ({ frames := 1, cells := 0, slots := 0, locals := 23 }) D [(cI, .int), (cL, .long)] [.ref (a 3), .long p0] (wBk a cI cL bs br) res.1 (wBk a cI cL res.2.1 res.2.2) := by
  intro sz
  refine Met.ofW (cc := cX0_numberFor) (maxL := 4) (ret := (some .int)) (by decide) rfl ?_
  intro p e s m args below meth c s₁ B hml hv
  obtain ⟨rfl, hsz, hP, hK, hD0, hN⟩ := hv
  have hx := B.exec
  have hb := B.bytes
  have hr := B.returns
  have hts := atoms_spec (ws := wsX0_numberFor) B.pre
  have hown : s.vm.findClass RX0 = some m.cls := findClass_of_methodNamed B.named
  have hlocks := B.notSynchronized
  subst hsz
  have hD := hD0.self (sz := s.heap.size)
  generalize hAe : va_A (wBk a cI cL bs br) s.heap.size = A at hD ⊢
  have hA : ∀ q : Nat, s.heap.size ≤ q → A q := fun q h => by rw [← hAe]; exact Or.inr h
  have hS : va_S A s.heap s.heap [] := va_S.rf
  have hl := lv_entry ([.ref (a 3), .long p0]) (n := 4) (Nat.le_of_ble_eq_true rfl)
  rw [lg_entry_eq]
  generalize (lg_sl ([.ref (a 3), .long p0]) ++ List.replicate (4 - (lg_sl ([.ref (a 3), .long p0])).length) Slot.unset).toArray = ls at hl ⊢
  have hl : lv_has ls 4 [(0, .ref (a 3)), (1, .long p0)] := hl
  have hf : pf_X0_numberFor bs br p0 = some res := hf
  refine lv_aload_n hx hb dX0_numberFor_0 rfl (lv_at hl 0 rfl) ?_
  refine lv_lload_n hx hb dX0_numberFor_1 rfl (lv_at hl 1 rfl) ?_
  obtain ⟨r1, hc, hf⟩ := jx_bs hf
  refine jx_ki (wr := []) (ws2 := (wBk a cI cL bs br)) (jx_runV (As := [.long p0]) (rest := []) ⟨hx, hb, hml, hown, hts⟩ (c_X0_find l D a cI cL bs br p0 r1 hc H.size) (cwV 1 hts gX0_numberFor_X0_find rfl rfl rfl (by decide +kernel) ⟨Nat.le_of_ble_eq_true rfl, Nat.le_of_ble_eq_true rfl⟩) hK hN hP hD [0, 1] rfl (by decide) 0 0 rfl rfl rfl hl.1 rfl (Nat.le_of_ble_eq_true rfl) dX0_numberFor_2 ⟨Nat.le_of_ble_eq_true rfl, Nat.le_of_ble_eq_true rfl⟩) hP hD hS hA [0, 1] [] [0, 1] rfl rfl (by decide) (by decide) rfl (by decide) (fun H locs hP hD hS => ?_)
  clear hc
  refine lv_istore_n (lv' := [(3, .int r1), (0, .ref (a 3)), (1, .long p0)]) hx hb dX0_numberFor_5 rfl hl (by decide) rfl (fun ls hl => ?_)
  refine lv_iload_n hx hb dX0_numberFor_6 rfl (lv_at hl 0 rfl) ?_
  refine lv_iconst (v := -1) hx hb dX0_numberFor_7 (by decide) ?_
  refine lv_icmp_ne (tgt := 20) hx hb dX0_numberFor_8 (by decide) (fun hq => ?_) (fun hq => ?_)
  · replace hf := jx_pos hq hf
    refine lv_iload_n hx hb dX0_numberFor_20 rfl (lv_at hl 0 rfl) ?_
    have he := jx_eq hf
    subst he
    exact jx_reti hx hb hr hlocks rfl hK hP hD hS dX0_numberFor_21
  · replace hf := jx_neg hq hf
    refine lv_aload_n hx hb dX0_numberFor_11 rfl (lv_at hl 1 rfl) ?_
    refine va_get (D := D) (ci := 0) (v := .int bs) (C := RX0) (T := TX0) (N := 2) hx hb hts iw_X0_numberFor_X0 hown hK hP 0 rfl rfl 1 (by decide) (hts (.fieldLink RX0 15 "PassedDuties$Book" "size" "I") (by decide +kernel)) (fun _ h9 => h9) rfl dX0_numberFor_12 ?_
    refine lv_bipush (v := 8) hx hb dX0_numberFor_15 (by decide) ?_
    refine lv_icmp_lt (tgt := 22) hx hb dX0_numberFor_17 (by decide) (fun hq => ?_) (fun hq => ?_)
    · replace hf := jx_pos hq hf
      refine lv_aload_n hx hb dX0_numberFor_22 rfl (lv_at hl 1 rfl) ?_
      refine va_get (D := D) (ci := 0) (v := .ref (a 4)) (C := RX0) (T := TX0) (N := 2) hx hb hts iw_X0_numberFor_X0 hown hK hP 0 rfl rfl 0 (by decide) (hts (.fieldLink RX0 9 "PassedDuties$Book" "rows" "[J") (by decide +kernel)) (fun _ h9 => h9) rfl dX0_numberFor_23 ?_
      refine lv_aload_n hx hb dX0_numberFor_26 rfl (lv_at hl 1 rfl) ?_
      refine va_get (D := D) (ci := 0) (v := .int bs) (C := RX0) (T := TX0) (N := 2) hx hb hts iw_X0_numberFor_X0 hown hK hP 0 rfl rfl 1 (by decide) (hts (.fieldLink RX0 15 "PassedDuties$Book" "size" "I") (by decide +kernel)) (fun _ h9 => h9) rfl dX0_numberFor_27 ?_
      refine lv_lload_n hx hb dX0_numberFor_30 rfl (lv_at hl 2 rfl) ?_
      obtain ⟨hi, hf⟩ := jx_gs hf
      refine va_last hx hb hK hP hD hS 1 1 rfl rfl (jx_ip hi) dX0_numberFor_31 (fun H locs hP hD hS => ?_)
      clear hi
      have hP : va_P D vwCl (wBk a cI cL bs (vp_updL br (bs).toNatClampNeg p0)) H := hP
      have hD : va_D A (wBk a cI cL bs (vp_updL br (bs).toNatClampNeg p0)) := hD
      refine lv_aload_n hx hb dX0_numberFor_32 rfl (lv_at hl 1 rfl) ?_
      refine lv_dup hx hb dX0_numberFor_33 rfl ?_
      refine va_get (D := D) (ci := 0) (v := .int bs) (C := RX0) (T := TX0) (N := 2) hx hb hts iw_X0_numberFor_X0 hown hK hP 0 rfl rfl 1 (by decide) (hts (.fieldLink RX0 15 "PassedDuties$Book" "size" "I") (by decide +kernel)) (fun _ h9 => h9) rfl dX0_numberFor_34 ?_
      refine lv_iconst (v := 1) hx hb dX0_numberFor_37 (by decide) ?_
      refine lv_iadd hx hb dX0_numberFor_38 ?_
      refine va_put (D := D) (ci := 0) (v := .int (bs + (1 : Int32))) (ty := .int) (C := RX0) (T := TX0) (N := 2) hx hb hts iw_X0_numberFor_X0 tyX0 tyX0_ok nmX0 hown hK hP hD hS 0 rfl rfl 1 (by decide) (hts (.fieldLink RX0 15 "PassedDuties$Book" "size" "I") (by decide +kernel)) (fun _ h9 => h9) rfl (by decide +kernel) rfl rfl (Nat.le_of_ble_eq_true rfl) dX0_numberFor_39 (fun H locs hP hD hS => ?_)
      have hP : va_P D vwCl (wBk a cI cL (bs + (1 : Int32)) (vp_updL br (bs).toNatClampNeg p0)) H := hP
      have hD : va_D A (wBk a cI cL (bs + (1 : Int32)) (vp_updL br (bs).toNatClampNeg p0)) := hD
      refine lv_aload_n hx hb dX0_numberFor_42 rfl (lv_at hl 1 rfl) ?_
      refine va_get (D := D) (ci := 0) (v := .int (bs + (1 : Int32))) (C := RX0) (T := TX0) (N := 2) hx hb hts iw_X0_numberFor_X0 hown hK hP 0 rfl rfl 1 (by decide) (hts (.fieldLink RX0 15 "PassedDuties$Book" "size" "I") (by decide +kernel)) (fun _ h9 => h9) rfl dX0_numberFor_43 ?_
      refine lv_iconst (v := 1) hx hb dX0_numberFor_46 (by decide) ?_
      refine lv_isub hx hb dX0_numberFor_47 ?_
      have he := jx_eq hf
      subst he
      exact jx_reti hx hb hr hlocks rfl hK hP hD hS dX0_numberFor_48
    · replace hf := jx_neg hq hf
      refine lv_iload_n hx hb dX0_numberFor_20 rfl (lv_at hl 0 rfl) ?_
      have he := jx_eq hf
      subst he
      exact jx_reti hx hb hr hlocks rfl hK hP hD hS dX0_numberFor_21
