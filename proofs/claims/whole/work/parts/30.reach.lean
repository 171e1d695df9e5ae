set_option maxHeartbeats 4000000 in
set_option maxRecDepth 100000 in
theorem c_J13_bitCount_95d88 (l : Launch) (D : va_G) (a : Nat → Nat) (cI cL : ClassId) (p0 : Int64) (res : Int32) (hf : pf_J13_bitCount_95d88 p0 = some res) : jMi l yJ13_bitCount_95d88 wsJ13_bitCount_95d88 ({ frames := 0, cells := 0, slots := 0, locals := 0 }) D [(cI, .int), (cL, .long)] [.long p0] (wE a cI cL) res (wE a cI cL) := by
  intro sz
  refine Met.ofW (cc := cJ13_bitCount_95d88) (maxL := 2) (ret := (some .int)) (by decide) rfl ?_
  intro p e s m args below meth c s₁ B hml hv
  obtain ⟨rfl, hsz, hP, hK, hD0, hN⟩ := hv
  have hx := B.exec
  have hb := B.bytes
  have hr := B.returns
  have hts := atoms_spec (ws := wsJ13_bitCount_95d88) B.pre
  have hown : s.vm.findClass RJ13 = some m.cls := findClass_of_methodNamed B.named
  have hlocks := B.notSynchronized
  subst hsz
  have hD := hD0.self (sz := s.heap.size)
  generalize hAe : va_A (wE a cI cL) s.heap.size = A at hD ⊢
  have hA : ∀ q : Nat, s.heap.size ≤ q → A q := fun q h => by rw [← hAe]; exact Or.inr h
  have hS : va_S A s.heap s.heap [] := va_S.rf
  have hl := lv_entry ([.long p0]) (n := 2) (Nat.le_of_ble_eq_true rfl)
  rw [lg_entry_eq]
  generalize (lg_sl ([.long p0]) ++ List.replicate (2 - (lg_sl ([.long p0])).length) Slot.unset).toArray = ls at hl ⊢
  have hl : lv_has ls 2 [(0, .long p0)] := hl
  have hf : pf_J13_bitCount_95d88 p0 = some res := hf
  refine lv_lload_n hx hb dJ13_bitCount_95d88_0 rfl (lv_at hl 0 rfl) ?_
  refine lv_lload_n hx hb dJ13_bitCount_95d88_1 rfl (lv_at hl 0 rfl) ?_
  refine lv_iconst (v := 1) hx hb dJ13_bitCount_95d88_2 (by decide) ?_
  refine lv_lushr (v := (((p0).toUInt64 >>> (((1 : Int32)).toInt64.toUInt64 &&& Int64.toUInt64 63)).toInt64)) hx hb dJ13_bitCount_95d88_3 rfl ?_
  refine lv_ldc2 (v := 6148914691236517205) hx hb hown (hts (.constantLong RJ13 314 (6148914691236517205)) (by decide +kernel)) dJ13_bitCount_95d88_4 ?_
  refine lv_land hx hb dJ13_bitCount_95d88_7 ?_
  refine lv_lsub hx hb dJ13_bitCount_95d88_8 ?_
  obtain ⟨v1, hn, hf⟩ := jx_bs hf
  refine W.eq (g2 := F0 m 9 ls [.long v1]) (congrArg (fun z => F0 m 9 ls (Value.long z :: [])) (jx_eq hn)) ?_
  clear hn
  refine lv_lstore_n (lv' := [(0, .long v1)]) hx hb dJ13_bitCount_95d88_9 rfl hl (by decide) rfl (fun ls hl => ?_)
  refine lv_lload_n hx hb dJ13_bitCount_95d88_10 rfl (lv_at hl 0 rfl) ?_
  refine lv_ldc2 (v := 3689348814741910323) hx hb hown (hts (.constantLong RJ13 316 (3689348814741910323)) (by decide +kernel)) dJ13_bitCount_95d88_11 ?_
  refine lv_land hx hb dJ13_bitCount_95d88_14 ?_
  refine lv_lload_n hx hb dJ13_bitCount_95d88_15 rfl (lv_at hl 0 rfl) ?_
  refine lv_iconst (v := 2) hx hb dJ13_bitCount_95d88_16 (by decide) ?_
  refine lv_lushr (v := (((v1).toUInt64 >>> (((2 : Int32)).toInt64.toUInt64 &&& Int64.toUInt64 63)).toInt64)) hx hb dJ13_bitCount_95d88_17 rfl ?_
  refine lv_ldc2 (v := 3689348814741910323) hx hb hown (hts (.constantLong RJ13 316 (3689348814741910323)) (by decide +kernel)) dJ13_bitCount_95d88_18 ?_
  refine lv_land hx hb dJ13_bitCount_95d88_21 ?_
  refine lv_ladd hx hb dJ13_bitCount_95d88_22 ?_
  obtain ⟨v2, hn, hf⟩ := jx_bs hf
  refine W.eq (g2 := F0 m 23 ls [.long v2]) (congrArg (fun z => F0 m 23 ls (Value.long z :: [])) (jx_eq hn)) ?_
  clear hn
  refine lv_lstore_n (lv' := [(0, .long v2)]) hx hb dJ13_bitCount_95d88_23 rfl hl (by decide) rfl (fun ls hl => ?_)
  refine lv_lload_n hx hb dJ13_bitCount_95d88_24 rfl (lv_at hl 0 rfl) ?_
  refine lv_lload_n hx hb dJ13_bitCount_95d88_25 rfl (lv_at hl 0 rfl) ?_
  refine lv_iconst (v := 4) hx hb dJ13_bitCount_95d88_26 (by decide) ?_
  refine lv_lushr (v := (((v2).toUInt64 >>> (((4 : Int32)).toInt64.toUInt64 &&& Int64.toUInt64 63)).toInt64)) hx hb dJ13_bitCount_95d88_27 rfl ?_
  refine lv_ladd hx hb dJ13_bitCount_95d88_28 ?_
  refine lv_ldc2 (v := 1085102592571150095) hx hb hown (hts (.constantLong RJ13 318 (1085102592571150095)) (by decide +kernel)) dJ13_bitCount_95d88_29 ?_
  refine lv_land hx hb dJ13_bitCount_95d88_32 ?_
  obtain ⟨v3, hn, hf⟩ := jx_bs hf
  refine W.eq (g2 := F0 m 33 ls [.long v3]) (congrArg (fun z => F0 m 33 ls (Value.long z :: [])) (jx_eq hn)) ?_
  clear hn
  refine lv_lstore_n (lv' := [(0, .long v3)]) hx hb dJ13_bitCount_95d88_33 rfl hl (by decide) rfl (fun ls hl => ?_)
  refine lv_lload_n hx hb dJ13_bitCount_95d88_34 rfl (lv_at hl 0 rfl) ?_
  refine lv_lload_n hx hb dJ13_bitCount_95d88_35 rfl (lv_at hl 0 rfl) ?_
  refine lv_bipush (v := 8) hx hb dJ13_bitCount_95d88_36 (by decide) ?_
  refine lv_lushr (v := (((v3).toUInt64 >>> (((8 : Int32)).toInt64.toUInt64 &&& Int64.toUInt64 63)).toInt64)) hx hb dJ13_bitCount_95d88_38 rfl ?_
  refine lv_ladd hx hb dJ13_bitCount_95d88_39 ?_
  refine lv_lstore_n (lv' := [(0, .long (v3 + (((v3).toUInt64 >>> (((8 : Int32)).toInt64.toUInt64 &&& Int64.toUInt64 63)).toInt64)))]) hx hb dJ13_bitCount_95d88_40 rfl hl (by decide) rfl (fun ls hl => ?_)
  refine lv_lload_n hx hb dJ13_bitCount_95d88_41 rfl (lv_at hl 0 rfl) ?_
  refine lv_lload_n hx hb dJ13_bitCount_95d88_42 rfl (lv_at hl 0 rfl) ?_
  refine lv_bipush (v := 16) hx hb dJ13_bitCount_95d88_43 (by decide) ?_
  refine lv_lushr (v := ((((v3 + (((v3).toUInt64 >>> (((8 : Int32)).toInt64.toUInt64 &&& Int64.toUInt64 63)).toInt64))).toUInt64 >>> (((16 : Int32)).toInt64.toUInt64 &&& Int64.toUInt64 63)).toInt64)) hx hb dJ13_bitCount_95d88_45 rfl ?_
  refine lv_ladd hx hb dJ13_bitCount_95d88_46 ?_
  obtain ⟨v4, hn, hf⟩ := jx_bs hf
  refine W.eq (g2 := F0 m 47 ls [.long v4]) (congrArg (fun z => F0 m 47 ls (Value.long z :: [])) (jx_eq hn)) ?_
  clear hn
  refine lv_lstore_n (lv' := [(0, .long v4)]) hx hb dJ13_bitCount_95d88_47 rfl hl (by decide) rfl (fun ls hl => ?_)
  refine lv_lload_n hx hb dJ13_bitCount_95d88_48 rfl (lv_at hl 0 rfl) ?_
  refine lv_lload_n hx hb dJ13_bitCount_95d88_49 rfl (lv_at hl 0 rfl) ?_
  refine lv_bipush (v := 32) hx hb dJ13_bitCount_95d88_50 (by decide) ?_
  refine lv_lushr (v := (((v4).toUInt64 >>> (((32 : Int32)).toInt64.toUInt64 &&& Int64.toUInt64 63)).toInt64)) hx hb dJ13_bitCount_95d88_52 rfl ?_
  refine lv_ladd hx hb dJ13_bitCount_95d88_53 ?_
  refine lv_lstore_n (lv' := [(0, .long (v4 + (((v4).toUInt64 >>> (((32 : Int32)).toInt64.toUInt64 &&& Int64.toUInt64 63)).toInt64)))]) hx hb dJ13_bitCount_95d88_54 rfl hl (by decide) rfl (fun ls hl => ?_)
  refine lv_lload_n hx hb dJ13_bitCount_95d88_55 rfl (lv_at hl 0 rfl) ?_
  refine lv_l2i (v := ((v4 + (((v4).toUInt64 >>> (((32 : Int32)).toInt64.toUInt64 &&& Int64.toUInt64 63)).toInt64))).toInt32) hx hb dJ13_bitCount_95d88_56 rfl ?_
  refine lv_bipush (v := 127) hx hb dJ13_bitCount_95d88_57 (by decide) ?_
  refine lv_iand hx hb dJ13_bitCount_95d88_59 ?_
  have he := jx_eq hf
  subst he
  exact jx_reti hx hb hr hlocks rfl hK hP hD hS dJ13_bitCount_95d88_60
set_option maxHeartbeats 4000000 in
set_option maxRecDepth 100000 in
theorem c_J6_bitCount_0f7a4 (l : Launch) (D : va_G) (a : Nat → Nat) (cI cL : ClassId) (p0 : Int32) (res : Int32) (hf : pf_J6_bitCount_0f7a4 p0 = some res) : jMi l yJ6_bitCount_0f7a4 wsJ6_bitCount_0f7a4 ({ frames := 0, cells := 0, slots := 0, locals := 0 }) D [(cI, .int), (cL, .long)] [.int p0] (wE a cI cL) res (wE a cI cL) := by
  intro sz
  refine Met.ofW (cc := cJ6_bitCount_0f7a4) (maxL := 1) (ret := (some .int)) (by decide) rfl ?_
  intro p e s m args below meth c s₁ B hml hv
  obtain ⟨rfl, hsz, hP, hK, hD0, hN⟩ := hv
  have hx := B.exec
  have hb := B.bytes
  have hr := B.returns
  have hts := atoms_spec (ws := wsJ6_bitCount_0f7a4) B.pre
  have hown : s.vm.findClass RJ6 = some m.cls := findClass_of_methodNamed B.named
  have hlocks := B.notSynchronized
  subst hsz
  have hD := hD0.self (sz := s.heap.size)
  generalize hAe : va_A (wE a cI cL) s.heap.size = A at hD ⊢
  have hA : ∀ q : Nat, s.heap.size ≤ q → A q := fun q h => by rw [← hAe]; exact Or.inr h
  have hS : va_S A s.heap s.heap [] := va_S.rf
  have hl := lv_entry ([.int p0]) (n := 1) (Nat.le_of_ble_eq_true rfl)
  rw [lg_entry_eq]
  generalize (lg_sl ([.int p0]) ++ List.replicate (1 - (lg_sl ([.int p0])).length) Slot.unset).toArray = ls at hl ⊢
  have hl : lv_has ls 1 [(0, .int p0)] := hl
  have hf : pf_J6_bitCount_0f7a4 p0 = some res := hf
  refine lv_iload_n hx hb dJ6_bitCount_0f7a4_0 rfl (lv_at hl 0 rfl) ?_
  refine lv_iload_n hx hb dJ6_bitCount_0f7a4_1 rfl (lv_at hl 0 rfl) ?_
  refine lv_iconst (v := 1) hx hb dJ6_bitCount_0f7a4_2 (by decide) ?_
  refine lv_iushr (v := (((p0).toUInt32 >>> (((1 : Int32)).toUInt32 &&& Int32.toUInt32 31)).toInt32)) hx hb dJ6_bitCount_0f7a4_3 rfl ?_
  refine lv_ldcw (v := 1431655765) hx hb hown (hts (.constant RJ6 265 (1431655765)) (by decide +kernel)) dJ6_bitCount_0f7a4_4 ?_
  refine lv_iand hx hb dJ6_bitCount_0f7a4_7 ?_
  refine lv_isub hx hb dJ6_bitCount_0f7a4_8 ?_
  obtain ⟨v1, hn, hf⟩ := jx_bs hf
  refine W.eq (g2 := F0 m 9 ls [.int v1]) (congrArg (fun z => F0 m 9 ls (Value.int z :: [])) (jx_eq hn)) ?_
  clear hn
  refine lv_istore_n (lv' := [(0, .int v1)]) hx hb dJ6_bitCount_0f7a4_9 rfl hl (by decide) rfl (fun ls hl => ?_)
  refine lv_iload_n hx hb dJ6_bitCount_0f7a4_10 rfl (lv_at hl 0 rfl) ?_
  refine lv_ldcw (v := 858993459) hx hb hown (hts (.constant RJ6 266 (858993459)) (by decide +kernel)) dJ6_bitCount_0f7a4_11 ?_
  refine lv_iand hx hb dJ6_bitCount_0f7a4_14 ?_
  refine lv_iload_n hx hb dJ6_bitCount_0f7a4_15 rfl (lv_at hl 0 rfl) ?_
  refine lv_iconst (v := 2) hx hb dJ6_bitCount_0f7a4_16 (by decide) ?_
  refine lv_iushr (v := (((v1).toUInt32 >>> (((2 : Int32)).toUInt32 &&& Int32.toUInt32 31)).toInt32)) hx hb dJ6_bitCount_0f7a4_17 rfl ?_
  refine lv_ldcw (v := 858993459) hx hb hown (hts (.constant RJ6 266 (858993459)) (by decide +kernel)) dJ6_bitCount_0f7a4_18 ?_
  refine lv_iand hx hb dJ6_bitCount_0f7a4_21 ?_
  refine lv_iadd hx hb dJ6_bitCount_0f7a4_22 ?_
  obtain ⟨v2, hn, hf⟩ := jx_bs hf
  refine W.eq (g2 := F0 m 23 ls [.int v2]) (congrArg (fun z => F0 m 23 ls (Value.int z :: [])) (jx_eq hn)) ?_
  clear hn
  refine lv_istore_n (lv' := [(0, .int v2)]) hx hb dJ6_bitCount_0f7a4_23 rfl hl (by decide) rfl (fun ls hl => ?_)
  refine lv_iload_n hx hb dJ6_bitCount_0f7a4_24 rfl (lv_at hl 0 rfl) ?_
  refine lv_iload_n hx hb dJ6_bitCount_0f7a4_25 rfl (lv_at hl 0 rfl) ?_
  refine lv_iconst (v := 4) hx hb dJ6_bitCount_0f7a4_26 (by decide) ?_
  refine lv_iushr (v := (((v2).toUInt32 >>> (((4 : Int32)).toUInt32 &&& Int32.toUInt32 31)).toInt32)) hx hb dJ6_bitCount_0f7a4_27 rfl ?_
  refine lv_iadd hx hb dJ6_bitCount_0f7a4_28 ?_
  refine lv_ldcw (v := 252645135) hx hb hown (hts (.constant RJ6 267 (252645135)) (by decide +kernel)) dJ6_bitCount_0f7a4_29 ?_
  refine lv_iand hx hb dJ6_bitCount_0f7a4_32 ?_
  obtain ⟨v3, hn, hf⟩ := jx_bs hf
  refine W.eq (g2 := F0 m 33 ls [.int v3]) (congrArg (fun z => F0 m 33 ls (Value.int z :: [])) (jx_eq hn)) ?_
  clear hn
  refine lv_istore_n (lv' := [(0, .int v3)]) hx hb dJ6_bitCount_0f7a4_33 rfl hl (by decide) rfl (fun ls hl => ?_)
  refine lv_iload_n hx hb dJ6_bitCount_0f7a4_34 rfl (lv_at hl 0 rfl) ?_
  refine lv_iload_n hx hb dJ6_bitCount_0f7a4_35 rfl (lv_at hl 0 rfl) ?_
  refine lv_bipush (v := 8) hx hb dJ6_bitCount_0f7a4_36 (by decide) ?_
  refine lv_iushr (v := (((v3).toUInt32 >>> (((8 : Int32)).toUInt32 &&& Int32.toUInt32 31)).toInt32)) hx hb dJ6_bitCount_0f7a4_38 rfl ?_
  refine lv_iadd hx hb dJ6_bitCount_0f7a4_39 ?_
  refine lv_istore_n (lv' := [(0, .int (v3 + (((v3).toUInt32 >>> (((8 : Int32)).toUInt32 &&& Int32.toUInt32 31)).toInt32)))]) hx hb dJ6_bitCount_0f7a4_40 rfl hl (by decide) rfl (fun ls hl => ?_)
  refine lv_iload_n hx hb dJ6_bitCount_0f7a4_41 rfl (lv_at hl 0 rfl) ?_
  refine lv_iload_n hx hb dJ6_bitCount_0f7a4_42 rfl (lv_at hl 0 rfl) ?_
  refine lv_bipush (v := 16) hx hb dJ6_bitCount_0f7a4_43 (by decide) ?_
  refine lv_iushr (v := ((((v3 + (((v3).toUInt32 >>> (((8 : Int32)).toUInt32 &&& Int32.toUInt32 31)).toInt32))).toUInt32 >>> (((16 : Int32)).toUInt32 &&& Int32.toUInt32 31)).toInt32)) hx hb dJ6_bitCount_0f7a4_45 rfl ?_
  refine lv_iadd hx hb dJ6_bitCount_0f7a4_46 ?_
  obtain ⟨v4, hn, hf⟩ := jx_bs hf
  refine W.eq (g2 := F0 m 47 ls [.int v4]) (congrArg (fun z => F0 m 47 ls (Value.int z :: [])) (jx_eq hn)) ?_
  clear hn
  refine lv_istore_n (lv' := [(0, .int v4)]) hx hb dJ6_bitCount_0f7a4_47 rfl hl (by decide) rfl (fun ls hl => ?_)
  refine lv_iload_n hx hb dJ6_bitCount_0f7a4_48 rfl (lv_at hl 0 rfl) ?_
  refine lv_bipush (v := 63) hx hb dJ6_bitCount_0f7a4_49 (by decide) ?_
  refine lv_iand hx hb dJ6_bitCount_0f7a4_51 ?_
  have he := jx_eq hf
  subst he
  exact jx_reti hx hb hr hlocks rfl hK hP hD hS dJ6_bitCount_0f7a4_52
set_option maxHeartbeats 4000000 in
set_option maxRecDepth 100000 in
theorem c_X4_itemsIn (l : Launch) (D : va_G) (a : Nat → Nat) (cI cL : ClassId) (p0 : Int64) (res : Int32) (hf : pf_X4_itemsIn p0 = some res) : jMi l yX4_itemsIn wsX4_itemsIn ({ frames := 0, cells := 0, slots := 0, locals := 0 }) D [(cI, .int), (cL, .long)] [.long p0] (wE a cI cL) res (wE a cI cL) := by
  intro sz
  refine Met.ofW (cc := cX4_itemsIn) (maxL := 2) (ret := (some .int)) (by decide) rfl ?_
  intro p e s m args below meth c s₁ B hml hv
  obtain ⟨rfl, hsz, hP, hK, hD0, hN⟩ := hv
  have hx := B.exec
  have hb := B.bytes
  have hr := B.returns
  have hts := atoms_spec (ws := wsX4_itemsIn) B.pre
  have hown : s.vm.findClass RX4 = some m.cls := findClass_of_methodNamed B.named
  have hlocks := B.notSynchronized
  subst hsz
  have hD := hD0.self (sz := s.heap.size)
  generalize hAe : va_A (wE a cI cL) s.heap.size = A at hD ⊢
  have hA : ∀ q : Nat, s.heap.size ≤ q → A q := fun q h => by rw [← hAe]; exact Or.inr h
  have hS : va_S A s.heap s.heap [] := va_S.rf
  have hl := lv_entry ([.long p0]) (n := 2) (Nat.le_of_ble_eq_true rfl)
  rw [lg_entry_eq]
  generalize (lg_sl ([.long p0]) ++ List.replicate (2 - (lg_sl ([.long p0])).length) Slot.unset).toArray = ls at hl ⊢
  have hl : lv_has ls 2 [(0, .long p0)] := hl
  have hf : pf_X4_itemsIn p0 = some res := hf
  refine lv_lload_n hx hb dX4_itemsIn_0 rfl (lv_at hl 0 rfl) ?_
  refine lv_lload_n hx hb dX4_itemsIn_1 rfl (lv_at hl 0 rfl) ?_
  refine lv_bipush (v := 12) hx hb dX4_itemsIn_2 (by decide) ?_
  refine lv_lshr (v := (p0 >>> (((12 : Int32)).toInt64 &&& 63))) hx hb dX4_itemsIn_4 rfl ?_
  refine lv_lor hx hb dX4_itemsIn_5 ?_
  refine lv_lload_n hx hb dX4_itemsIn_6 rfl (lv_at hl 0 rfl) ?_
  refine lv_bipush (v := 24) hx hb dX4_itemsIn_7 (by decide) ?_
  refine lv_lshr (v := (p0 >>> (((24 : Int32)).toInt64 &&& 63))) hx hb dX4_itemsIn_9 rfl ?_
  refine lv_lor hx hb dX4_itemsIn_10 ?_
  refine lv_l2i (v := (((p0 ||| (p0 >>> (((12 : Int32)).toInt64 &&& 63))) ||| (p0 >>> (((24 : Int32)).toInt64 &&& 63)))).toInt32) hx hb dX4_itemsIn_11 rfl ?_
  refine lv_sipush (v := 4095) hx hb dX4_itemsIn_12 (by decide) ?_
  refine lv_iand hx hb dX4_itemsIn_15 ?_
  have he := jx_eq hf
  subst he
  exact jx_reti hx hb hr hlocks rfl hK hP hD hS dX4_itemsIn_16
set_option maxHeartbeats 4000000 in
set_option maxRecDepth 100000 in
theorem c_X4_meeting (l : Launch) (D : va_G) (a : Nat → Nat) (cI cL : ClassId) (p0 : Int64) (res : Int32) (hf : pf_X4_meeting p0 = some res) : jMi l yX4_meeting wsX4_meeting ({ frames := 1, cells := 0, slots := 0, locals := 21 }) D [(cI, .int), (cL, .long)] [.long p0] (wE a cI cL) res (wE a cI cL) := by
  intro sz
  refine Met.ofW (cc := cX4_meeting) (maxL := 3) (ret := (some .int)) (by decide) rfl ?_
  intro p e s m args below meth c s₁ B hml hv
  obtain ⟨rfl, hsz, hP, hK, hD0, hN⟩ := hv
  have hx := B.exec
  have hb := B.bytes
  have hr := B.returns
  have hts := atoms_spec (ws := wsX4_meeting) B.pre
  have hown : s.vm.findClass RX4 = some m.cls := findClass_of_methodNamed B.named
  have hlocks := B.notSynchronized
  subst hsz
  have hD := hD0.self (sz := s.heap.size)
  generalize hAe : va_A (wE a cI cL) s.heap.size = A at hD ⊢
  have hA : ∀ q : Nat, s.heap.size ≤ q → A q := fun q h => by rw [← hAe]; exact Or.inr h
  have hS : va_S A s.heap s.heap [] := va_S.rf
  have hl := lv_entry ([.long p0]) (n := 3) (Nat.le_of_ble_eq_true rfl)
  rw [lg_entry_eq]
  generalize (lg_sl ([.long p0]) ++ List.replicate (3 - (lg_sl ([.long p0])).length) Slot.unset).toArray = ls at hl ⊢
  have hl : lv_has ls 3 [(0, .long p0)] := hl
  have hf : pf_X4_meeting p0 = some res := hf
  refine lv_lload_n hx hb dX4_meeting_0 rfl (lv_at hl 0 rfl) ?_
  obtain ⟨r1, hc, hf⟩ := jx_bs hf
  refine jx_ki (wr := []) (ws2 := (wE a cI cL)) (jx_runS (As := [.long p0]) (rest := []) ⟨hx, hb, hml, hown, hts⟩ (c_X4_itemsIn l D a cI cL p0 r1 hc _) (va_cwS 1 hts gX4_meeting_X4_itemsIn rfl rfl rfl (by decide +kernel) ⟨Nat.le_of_ble_eq_true rfl, Nat.le_of_ble_eq_true rfl⟩) hK hN hP hD [] rfl (by decide) rfl hl.1 rfl (Nat.le_of_ble_eq_true rfl) dX4_meeting_1 ⟨Nat.le_of_ble_eq_true rfl, Nat.le_of_ble_eq_true rfl⟩) hP hD hS hA [] [] [] rfl rfl (by decide) (by decide) rfl (by decide) (fun H locs hP hD hS => ?_)
  clear hc
  refine lv_istore_n (lv' := [(2, .int r1), (0, .long p0)]) hx hb dX4_meeting_4 rfl hl (by decide) rfl (fun ls hl => ?_)
  refine lv_iload_n hx hb dX4_meeting_5 rfl (lv_at hl 0 rfl) ?_
  refine lv_iload_n hx hb dX4_meeting_6 rfl (lv_at hl 0 rfl) ?_
  refine lv_bipush (v := 6) hx hb dX4_meeting_7 (by decide) ?_
  refine lv_ishr hx hb dX4_meeting_9 ?_
  refine lv_iand hx hb dX4_meeting_10 ?_
  have he := jx_eq hf
  subst he
  exact jx_reti hx hb hr hlocks rfl hK hP hD hS dX4_meeting_11
set_option maxHeartbeats 4000000 in
set_option maxRecDepth 100000 in
theorem c_X6_isSet (l : Launch) (D : va_G) (a : Nat → Nat) (cI cL : ClassId) (p0 : Int64) (p1 : Int32) (res : Int32) (hf : pf_X6_isSet p0 p1 = some res) : jMi l yX6_isSet wsX6_isSet ({ frames := 0, cells := 0, slots := 0, locals := 0 }) D [(cI, .int), (cL, .long)] [.long p0, .int p1] (wE a cI cL) res (wE a cI cL) := by
  intro sz
  refine Met.ofW (cc := cX6_isSet) (maxL := 3) (ret := (some .boolean)) (by decide) rfl ?_
  intro p e s m args below meth c s₁ B hml hv
  obtain ⟨rfl, hsz, hP, hK, hD0, hN⟩ := hv
  have hx := B.exec
  have hb := B.bytes
  have hr := B.returns
  have hts := atoms_spec (ws := wsX6_isSet) B.pre
  have hown : s.vm.findClass RX6 = some m.cls := findClass_of_methodNamed B.named
  have hlocks := B.notSynchronized
  subst hsz
  have hD := hD0.self (sz := s.heap.size)
  generalize hAe : va_A (wE a cI cL) s.heap.size = A at hD ⊢
  have hA : ∀ q : Nat, s.heap.size ≤ q → A q := fun q h => by rw [← hAe]; exact Or.inr h
  have hS : va_S A s.heap s.heap [] := va_S.rf
  have hl := lv_entry ([.long p0, .int p1]) (n := 3) (Nat.le_of_ble_eq_true rfl)
  rw [lg_entry_eq]
  generalize (lg_sl ([.long p0, .int p1]) ++ List.replicate (3 - (lg_sl ([.long p0, .int p1])).length) Slot.unset).toArray = ls at hl ⊢
  have hl : lv_has ls 3 [(0, .long p0), (2, .int p1)] := hl
  have hf : pf_X6_isSet p0 p1 = some res := hf
  refine lv_lload_n hx hb dX6_isSet_0 rfl (lv_at hl 0 rfl) ?_
  refine lv_iload_n hx hb dX6_isSet_1 rfl (lv_at hl 1 rfl) ?_
  refine lv_lshr (v := (p0 >>> ((p1).toInt64 &&& 63))) hx hb dX6_isSet_2 rfl ?_
  refine lv_lconst (v := 1) hx hb dX6_isSet_3 (by decide) ?_
  refine lv_land hx hb dX6_isSet_4 ?_
  refine lv_lconst (v := 0) hx hb dX6_isSet_5 (by decide) ?_
  refine W.lcmp hx hb dX6_isSet_6 ?_
  refine W.eq (g2 := F0 m 7 ls [.int (lg_cmp ((p0 >>> ((p1).toInt64 &&& 63)) &&& (1 : Int64)) (0 : Int64))]) rfl ?_
  refine lv_if_eq (tgt := 14) hx hb dX6_isSet_7 (by decide) (fun hq => ?_) (fun hq => ?_)
  · replace hf := jx_pos hq hf
    refine lv_iconst (v := 0) hx hb dX6_isSet_14 (by decide) ?_
    have he := jx_eq hf
    subst he
    exact jx_retz hx hb hr hlocks narrow_b0 rfl hK hP hD hS dX6_isSet_15
  · replace hf := jx_neg hq hf
    refine lv_iconst (v := 1) hx hb dX6_isSet_10 (by decide) ?_
    refine lv_goto (tgt := 15) hx hb dX6_isSet_11 (by decide) ?_
    have he := jx_eq hf
    subst he
    exact jx_retz hx hb hr hlocks narrow_b1 rfl hK hP hD hS dX6_isSet_15
set_option maxHeartbeats 4000000 in
set_option maxRecDepth 100000 in
theorem c_X4_rowsFor (l : Launch) (D : va_G) (a : Nat → Nat) (cI cL : ClassId) (p0 : Int32) (p1 : Int32) (res : Int64) (hf : pf_X4_rowsFor p0 p1 = some res) : jMl l yX4_rowsFor wsX4_rowsFor ({ frames := 0, cells := 0, slots := 0, locals := 0 }) D [(cI, .int), (cL, .long)] [.int p0, .int p1] (wE a cI cL) res (wE a cI cL) := by
  intro sz
  refine Met.ofW (cc := cX4_rowsFor) (maxL := 5) (ret := (some .long)) (by decide) rfl ?_
  intro p e s m args below meth c s₁ B hml hv
  obtain ⟨rfl, hsz, hP, hK, hD0, hN⟩ := hv
  have hx := B.exec
  have hb := B.bytes
  have hr := B.returns
  have hts := atoms_spec (ws := wsX4_rowsFor) B.pre
  have hown : s.vm.findClass RX4 = some m.cls := findClass_of_methodNamed B.named
  have hlocks := B.notSynchronized
  subst hsz
  have hD := hD0.self (sz := s.heap.size)
  generalize hAe : va_A (wE a cI cL) s.heap.size = A at hD ⊢
  have hA : ∀ q : Nat, s.heap.size ≤ q → A q := fun q h => by rw [← hAe]; exact Or.inr h
  have hS : va_S A s.heap s.heap [] := va_S.rf
  have hl := lv_entry ([.int p0, .int p1]) (n := 5) (Nat.le_of_ble_eq_true rfl)
  rw [lg_entry_eq]
  generalize (lg_sl ([.int p0, .int p1]) ++ List.replicate (5 - (lg_sl ([.int p0, .int p1])).length) Slot.unset).toArray = ls at hl ⊢
  have hl : lv_has ls 5 [(0, .int p0), (1, .int p1)] := hl
  have hf : pf_X4_rowsFor p0 p1 = some res := hf
  refine lv_lconst (v := 0) hx hb dX4_rowsFor_0 (by decide) ?_
  refine lv_lstore_n (lv' := [(2, .long (0 : Int64)), (0, .int p0), (1, .int p1)]) hx hb dX4_rowsFor_1 rfl hl (by decide) rfl (fun ls hl => ?_)
  refine lv_iconst (v := 0) hx hb dX4_rowsFor_2 (by decide) ?_
  refine lv_istore (lv' := [(4, .int (0 : Int32)), (2, .long (0 : Int64)), (0, .int p0), (1, .int p1)]) hx hb dX4_rowsFor_3 hl (by decide) rfl (fun ls hl => ?_)
  obtain ⟨k2, hf, hkk2⟩ := jx_bs hf
  have hXk2 : ∀ (H : Heap) (locs : List Loc) (ls : Array Slot), va_P D vwCl (wE a cI cL) H → va_D A (wE a cI cL) → va_S A s.heap H locs → lv_has ls 5 [(2, .long k2)] → jx_Wl p l e wsX4_rowsFor ({ frames := 0, cells := 0, slots := 0, locals := 0 }) s m [.int p0, .int p1] below meth c D [(cI, .int), (cL, .long)] res (wE a cI cL) A H locs (F0 m 29 ls []) := by
    clear hf hP hD hS hl
    intro H locs ls hP hD hS hl
    have hf := hkk2
    refine lv_lload_n hx hb dX4_rowsFor_29 rfl (lv_at hl 0 rfl) ?_
    have he := jx_eq hf
    subst he
    exact jx_retl hx hb hr hlocks rfl hK hP hD hS dX4_rowsFor_30
  have hLk2 : ∀ (n : Nat) (s1 : (Int64 × Int32)) (H : Heap) (locs : List Loc) (ls : Array Slot), jx_iter (pf_X4_rowsFor_s1 p0 p1) n s1 = some k2 → va_P D vwCl (wE a cI cL) H → va_D A (wE a cI cL) → va_S A s.heap H locs → lv_has ls 5 [(0, .int p0), (1, .int p1), (2, .long s1.1), (4, .int s1.2)] → jx_Wl p l e wsX4_rowsFor ({ frames := 0, cells := 0, slots := 0, locals := 0 }) s m [.int p0, .int p1] below meth c D [(cI, .int), (cL, .long)] res (wE a cI cL) A H locs (F0 m 5 ls []) := by
    clear hf hP hD hS hl
    intro n
    induction n with
    | zero => intro s1 _ _ _ hf; cases hf
    | succ n ihk2 =>
      intro s1 H locs ls hf hP hD hS hl
      obtain ⟨q3, hf, hgk2⟩ := jx_bs hf
      refine lv_iload hx hb dX4_rowsFor_5 (lv_at hl 3 rfl) ?_
      refine lv_iload_n hx hb dX4_rowsFor_7 rfl (lv_at hl 1 rfl) ?_
      refine lv_icmp_ge (tgt := 29) hx hb dX4_rowsFor_8 (by decide) (fun hq => ?_) (fun hq => ?_)
      · replace hf := jx_pos hq hf
        have he := jx_eq hf
        subst he
        have he : _ = k2 := jx_eq hgk2
        subst he
        exact hXk2 _ _ _ hP hD hS (lv_sub hl [2] rfl)
      · replace hf := jx_neg hq hf
        refine lv_lload_n hx hb dX4_rowsFor_11 rfl (lv_at hl 2 rfl) ?_
        refine lv_lconst (v := 1) hx hb dX4_rowsFor_12 (by decide) ?_
        refine lv_iload hx hb dX4_rowsFor_13 (lv_at hl 3 rfl) ?_
        refine lv_bipush (v := 12) hx hb dX4_rowsFor_15 (by decide) ?_
        refine lv_imul hx hb dX4_rowsFor_17 ?_
        refine lv_iload_n hx hb dX4_rowsFor_18 rfl (lv_at hl 0 rfl) ?_
        refine lv_iadd hx hb dX4_rowsFor_19 ?_
        refine lv_lshl (v := ((1 : Int64) <<< ((((s1.2 * (12 : Int32)) + p0)).toInt64 &&& 63))) hx hb dX4_rowsFor_20 rfl ?_
        refine lv_lor hx hb dX4_rowsFor_21 ?_
        refine lv_lstore_n (lv' := [(2, .long (s1.1 ||| ((1 : Int64) <<< ((((s1.2 * (12 : Int32)) + p0)).toInt64 &&& 63)))), (0, .int p0), (1, .int p1), (4, .int s1.2)]) hx hb dX4_rowsFor_22 rfl hl (by decide) rfl (fun ls hl => ?_)
        refine lv_iinc (v := (s1.2 + (1 : Int32))) (lv' := [(4, .int (s1.2 + (1 : Int32))), (2, .long (s1.1 ||| ((1 : Int64) <<< ((((s1.2 * (12 : Int32)) + p0)).toInt64 &&& 63)))), (0, .int p0), (1, .int p1)]) hx hb dX4_rowsFor_23 hl (k := 3) rfl rfl (by decide) rfl (fun ls hl => ?_)
        refine lv_goto (tgt := 5) hx hb dX4_rowsFor_26 (by decide) ?_
        have he := jx_eq hf
        subst he
        exact ihk2 ((s1.1 ||| ((1 : Int64) <<< ((((s1.2 * (12 : Int32)) + p0)).toInt64 &&& 63))), (s1.2 + (1 : Int32))) _ _ _ hgk2 hP hD hS (lv_sub hl [2, 3, 1, 0] rfl)
  exact hLk2 jx_F ((0 : Int64), (0 : Int32)) _ _ _ hf hP hD hS (lv_sub hl [2, 3, 1, 0] rfl)
set_option maxHeartbeats 4000000 in
set_option maxRecDepth 100000 in
theorem c_X4_greatest (l : Launch) (D : va_G) (a : Nat → Nat) (cI cL : ClassId) (p0 : Int64) (p1 : Int32) (res : Int32) (hf : pf_X4_greatest p0 p1 = some res) : jMi l yX4_greatest wsX4_greatest ({ frames := 1, cells := 0, slots := 0, locals := 22 }) D [(cI, .int), (cL, .long)] [.long p0, .int p1] (wE a cI cL) res (wE a cI cL) := by
  intro sz
  refine Met.ofW (cc := cX4_greatest) (maxL := 4) (ret := (some .int)) (by decide) rfl ?_
  intro p e s m args below meth c s₁ B hml hv
  obtain ⟨rfl, hsz, hP, hK, hD0, hN⟩ := hv
  have hx := B.exec
  have hb := B.bytes
  have hr := B.returns
  have hts := atoms_spec (ws := wsX4_greatest) B.pre
  have hown : s.vm.findClass RX4 = some m.cls := findClass_of_methodNamed B.named
  have hlocks := B.notSynchronized
  subst hsz
  have hD := hD0.self (sz := s.heap.size)
  generalize hAe : va_A (wE a cI cL) s.heap.size = A at hD ⊢
  have hA : ∀ q : Nat, s.heap.size ≤ q → A q := fun q h => by rw [← hAe]; exact Or.inr h
  have hS : va_S A s.heap s.heap [] := va_S.rf
  have hl := lv_entry ([.long p0, .int p1]) (n := 4) (Nat.le_of_ble_eq_true rfl)
  rw [lg_entry_eq]
  generalize (lg_sl ([.long p0, .int p1]) ++ List.replicate (4 - (lg_sl ([.long p0, .int p1])).length) Slot.unset).toArray = ls at hl ⊢
  have hl : lv_has ls 4 [(0, .long p0), (2, .int p1)] := hl
  have hf : pf_X4_greatest p0 p1 = some res := hf
  refine lv_iconst (v := 3) hx hb dX4_greatest_0 (by decide) ?_
  refine lv_istore_n (lv' := [(3, .int (3 : Int32)), (0, .long p0), (2, .int p1)]) hx hb dX4_greatest_1 rfl hl (by decide) rfl (fun ls hl => ?_)
  obtain ⟨k2, hf, hkk2⟩ := jx_bs hf
  have hXk2 : ∀ (xk2 : Unit), k2 = Sum.inl xk2 → ∀ (H : Heap) (locs : List Loc) (ls : Array Slot), va_P D vwCl (wE a cI cL) H → va_D A (wE a cI cL) → va_S A s.heap H locs → lv_has ls 4 [] → jx_Wi p l e wsX4_greatest ({ frames := 1, cells := 0, slots := 0, locals := 22 }) s m [.long p0, .int p1] below meth c D [(cI, .int), (cL, .long)] res (wE a cI cL) A H locs (F0 m 30 ls []) := by
    clear hf hP hD hS hl
    intro xk2 he H locs ls hP hD hS hl
    subst he
    have hf := hkk2
    refine lv_iconst (v := 0) hx hb dX4_greatest_30 (by decide) ?_
    have he := jx_eq hf
    subst he
    exact jx_reti hx hb hr hlocks rfl hK hP hD hS dX4_greatest_31
  have hLk2 : ∀ (n : Nat) (s1 : Int32) (H : Heap) (locs : List Loc) (ls : Array Slot), jx_iter (pf_X4_greatest_s1 p0 p1) n s1 = some k2 → va_P D vwCl (wE a cI cL) H → va_D A (wE a cI cL) → va_S A s.heap H locs → lv_has ls 4 [(0, .long p0), (2, .int p1), (3, .int s1)] → jx_Wi p l e wsX4_greatest ({ frames := 1, cells := 0, slots := 0, locals := 22 }) s m [.long p0, .int p1] below meth c D [(cI, .int), (cL, .long)] res (wE a cI cL) A H locs (F0 m 2 ls []) := by
    clear hf hP hD hS hl
    intro n
    induction n with
    | zero => intro s1 _ _ _ hf; cases hf
    | succ n ihk2 =>
      intro s1 H locs ls hf hP hD hS hl
      obtain ⟨q3, hf, hgk2⟩ := jx_bs hf
      refine lv_iload_n hx hb dX4_greatest_2 rfl (lv_at hl 2 rfl) ?_
      refine lv_iconst (v := 1) hx hb dX4_greatest_3 (by decide) ?_
      refine lv_icmp_lt (tgt := 30) hx hb dX4_greatest_4 (by decide) (fun hq => ?_) (fun hq => ?_)
      · replace hf := jx_pos hq hf
        have he := jx_eq hf
        subst he
        have he : Sum.inl _ = k2 := jx_eq hgk2
        subst he
        exact hXk2 _ rfl _ _ _ hP hD hS (lv_sub hl [] rfl)
      · replace hf := jx_neg hq hf
        refine lv_lload_n hx hb dX4_greatest_7 rfl (lv_at hl 0 rfl) ?_
        refine lv_iload_n hx hb dX4_greatest_8 rfl (lv_at hl 2 rfl) ?_
        refine lv_iconst (v := 1) hx hb dX4_greatest_9 (by decide) ?_
        refine lv_isub hx hb dX4_greatest_10 ?_
        refine lv_bipush (v := 12) hx hb dX4_greatest_11 (by decide) ?_
        refine lv_imul hx hb dX4_greatest_13 ?_
        refine lv_iload_n hx hb dX4_greatest_14 rfl (lv_at hl 1 rfl) ?_
        refine lv_iadd hx hb dX4_greatest_15 ?_
        obtain ⟨r4, hc, hf⟩ := jx_bs hf
        refine jx_ki (wr := []) (ws2 := (wE a cI cL)) (jx_runSN (As := [.long p0, .int (((s1 - (1 : Int32)) * (12 : Int32)) + p1)]) (rest := []) ⟨hx, hb, hml, hown, hts⟩ (c_X6_isSet l D a cI cL p0 (((s1 - (1 : Int32)) * (12 : Int32)) + p1) r4 hc _) (va_cnB 2 hts gX4_greatest_X6_isSet_n9 rfl rfl rfl (hN (.methodLinkNest "PassedDuties$Reaches" 9 yX6_isSet "PassedDuties") (by decide +kernel)) (hts (.initialized RX6) (by decide +kernel)) (by decide +kernel) ⟨Nat.le_of_ble_eq_true rfl, Nat.le_of_ble_eq_true rfl⟩) (hts (.static yX6_isSet) (by decide +kernel)) hK hN hP hD [] rfl (by decide) rfl hl.1 rfl (Nat.le_of_ble_eq_true rfl) dX4_greatest_16 ⟨Nat.le_of_ble_eq_true rfl, Nat.le_of_ble_eq_true rfl⟩) hP hD hS hA [] [] [] rfl rfl (by decide) (by decide) rfl (by decide) (fun H locs hP hD hS => ?_)
        clear hc
        refine lv_if_eq (tgt := 24) hx hb dX4_greatest_19 (by decide) (fun hq => ?_) (fun hq => ?_)
        · replace hf := jx_pos hq hf
          refine lv_iinc (v := (s1 + (-1 : Int32))) (lv' := [(3, .int (s1 + (-1 : Int32))), (0, .long p0), (2, .int p1)]) hx hb dX4_greatest_24 hl (k := 2) rfl rfl (by decide) rfl (fun ls hl => ?_)
          refine lv_goto (tgt := 2) hx hb dX4_greatest_27 (by decide) ?_
          have he := jx_eq hf
          subst he
          exact ihk2 (s1 + (-1 : Int32)) _ _ _ hgk2 hP hD hS (lv_sub hl [1, 2, 0] rfl)
        · replace hf := jx_neg hq hf
          refine lv_iload_n hx hb dX4_greatest_22 rfl (lv_at hl 2 rfl) ?_
          have he := jx_eq hf
          subst he
          have he : Sum.inr _ = k2 := jx_eq hgk2
          subst he
          have hf := hkk2
          have he := jx_eq hf
          subst he
          exact jx_reti hx hb hr hlocks rfl hK hP hD hS dX4_greatest_23
  exact hLk2 jx_F (3 : Int32) _ _ _ hf hP hD hS (lv_sub hl [1, 2, 0] rfl)
set_option maxHeartbeats 4000000 in
set_option maxRecDepth 100000 in
theorem c_X4_letThrough (l : Launch) (D : va_G) (a : Nat → Nat) (cI cL : ClassId) (p0 : Int32) (res : Int64) (hf : pf_X4_letThrough p0 = some res) : jMl l yX4_letThrough wsX4_letThrough ({ frames := 0, cells := 0, slots := 0, locals := 0 }) D [(cI, .int), (cL, .long)] [.int p0] (wE a cI cL) res (wE a cI cL) := by
  intro sz
  refine Met.ofW (cc := cX4_letThrough) (maxL := 1) (ret := (some .long)) (by decide) rfl ?_
  intro p e s m args below meth c s₁ B hml hv
  obtain ⟨rfl, hsz, hP, hK, hD0, hN⟩ := hv
  have hx := B.exec
  have hb := B.bytes
  have hr := B.returns
  have hts := atoms_spec (ws := wsX4_letThrough) B.pre
  have hown : s.vm.findClass RX4 = some m.cls := findClass_of_methodNamed B.named
  have hlocks := B.notSynchronized
  subst hsz
  have hD := hD0.self (sz := s.heap.size)
  generalize hAe : va_A (wE a cI cL) s.heap.size = A at hD ⊢
  have hA : ∀ q : Nat, s.heap.size ≤ q → A q := fun q h => by rw [← hAe]; exact Or.inr h
  have hS : va_S A s.heap s.heap [] := va_S.rf
  have hl := lv_entry ([.int p0]) (n := 1) (Nat.le_of_ble_eq_true rfl)
  rw [lg_entry_eq]
  generalize (lg_sl ([.int p0]) ++ List.replicate (1 - (lg_sl ([.int p0])).length) Slot.unset).toArray = ls at hl ⊢
  have hl : lv_has ls 1 [(0, .int p0)] := hl
  have hf : pf_X4_letThrough p0 = some res := hf
  refine lv_iload_n hx hb dX4_letThrough_0 rfl (lv_at hl 0 rfl) ?_
  refine lv_iconst (v := -1) hx hb dX4_letThrough_1 (by decide) ?_
  refine lv_icmp_ne (tgt := 9) hx hb dX4_letThrough_2 (by decide) (fun hq => ?_) (fun hq => ?_)
  · replace hf := jx_pos hq hf
    refine lv_ldc2 (v := 68719476735) hx hb hown (hts (.constantLong RX4 21 (68719476735)) (by decide +kernel)) dX4_letThrough_9 ?_
    refine lv_ldc2 (v := -1) hx hb hown (hts (.constantLong RX4 13 (-1)) (by decide +kernel)) dX4_letThrough_12 ?_
    refine lv_iload_n hx hb dX4_letThrough_15 rfl (lv_at hl 0 rfl) ?_
    refine lv_bipush (v := 12) hx hb dX4_letThrough_16 (by decide) ?_
    refine lv_imul hx hb dX4_letThrough_18 ?_
    refine lv_lshl (v := ((-1 : Int64) <<< (((p0 * (12 : Int32))).toInt64 &&& 63))) hx hb dX4_letThrough_19 rfl ?_
    refine lv_land hx hb dX4_letThrough_20 ?_
    have he := jx_eq hf
    subst he
    exact jx_retl hx hb hr hlocks rfl hK hP hD hS dX4_letThrough_21
  · replace hf := jx_negn hq hf
    refine lv_lconst (v := 0) hx hb dX4_letThrough_5 (by decide) ?_
    refine lv_goto (tgt := 21) hx hb dX4_letThrough_6 (by decide) ?_
    have he := jx_eq hf
    subst he
    exact jx_retl hx hb hr hlocks rfl hK hP hD hS dX4_letThrough_21
set_option maxHeartbeats 4000000 in
set_option maxRecDepth 100000 in
theorem c_X4_bars (l : Launch) (D : va_G) (a : Nat → Nat) (cI cL : ClassId) (p0 : Int64) (res : Int32) (hf : pf_X4_bars p0 = some res) : jMi l yX4_bars wsX4_bars ({ frames := 1, cells := 0, slots := 0, locals := 21 }) D [(cI, .int), (cL, .long)] [.long p0] (wE a cI cL) res (wE a cI cL) := by
  intro sz
  refine Met.ofW (cc := cX4_bars) (maxL := 2) (ret := (some .int)) (by decide) rfl ?_
  intro p e s m args below meth c s₁ B hml hv
  obtain ⟨rfl, hsz, hP, hK, hD0, hN⟩ := hv
  have hx := B.exec
  have hb := B.bytes
  have hr := B.returns
  have hts := atoms_spec (ws := wsX4_bars) B.pre
  have hown : s.vm.findClass RX4 = some m.cls := findClass_of_methodNamed B.named
  have hlocks := B.notSynchronized
  subst hsz
  have hD := hD0.self (sz := s.heap.size)
  generalize hAe : va_A (wE a cI cL) s.heap.size = A at hD ⊢
  have hA : ∀ q : Nat, s.heap.size ≤ q → A q := fun q h => by rw [← hAe]; exact Or.inr h
  have hS : va_S A s.heap s.heap [] := va_S.rf
  have hl := lv_entry ([.long p0]) (n := 2) (Nat.le_of_ble_eq_true rfl)
  rw [lg_entry_eq]
  generalize (lg_sl ([.long p0]) ++ List.replicate (2 - (lg_sl ([.long p0])).length) Slot.unset).toArray = ls at hl ⊢
  have hl : lv_has ls 2 [(0, .long p0)] := hl
  have hf : pf_X4_bars p0 = some res := hf
  refine lv_lload_n hx hb dX4_bars_0 rfl (lv_at hl 0 rfl) ?_
  obtain ⟨r1, hc, hf⟩ := jx_bs hf
  refine jx_ki (wr := []) (ws2 := (wE a cI cL)) (jx_runS (As := [.long p0]) (rest := []) ⟨hx, hb, hml, hown, hts⟩ (c_X4_itemsIn l D a cI cL p0 r1 hc _) (va_cwS 1 hts gX4_bars_X4_itemsIn rfl rfl rfl (by decide +kernel) ⟨Nat.le_of_ble_eq_true rfl, Nat.le_of_ble_eq_true rfl⟩) hK hN hP hD [] rfl (by decide) rfl hl.1 rfl (Nat.le_of_ble_eq_true rfl) dX4_bars_1 ⟨Nat.le_of_ble_eq_true rfl, Nat.le_of_ble_eq_true rfl⟩) hP hD hS hA [] [] [] rfl rfl (by decide) (by decide) rfl (by decide) (fun H locs hP hD hS => ?_)
  clear hc
  refine lv_bipush (v := 6) hx hb dX4_bars_4 (by decide) ?_
  refine lv_ishr hx hb dX4_bars_6 ?_
  have he := jx_eq hf
  subst he
  exact jx_reti hx hb hr hlocks rfl hK hP hD hS dX4_bars_7
set_option maxHeartbeats 4000000 in
set_option maxRecDepth 100000 in
theorem c_X4_duties (l : Launch) (D : va_G) (a : Nat → Nat) (cI cL : ClassId) (p0 : Int64) (res : Int32) (hf : pf_X4_duties p0 = some res) : jMi l yX4_duties wsX4_duties ({ frames := 1, cells := 0, slots := 0, locals := 21 }) D [(cI, .int), (cL, .long)] [.long p0] (wE a cI cL) res (wE a cI cL) := by
  intro sz
  refine Met.ofW (cc := cX4_duties) (maxL := 2) (ret := (some .int)) (by decide) rfl ?_
  intro p e s m args below meth c s₁ B hml hv
  obtain ⟨rfl, hsz, hP, hK, hD0, hN⟩ := hv
  have hx := B.exec
  have hb := B.bytes
  have hr := B.returns
  have hts := atoms_spec (ws := wsX4_duties) B.pre
  have hown : s.vm.findClass RX4 = some m.cls := findClass_of_methodNamed B.named
  have hlocks := B.notSynchronized
  subst hsz
  have hD := hD0.self (sz := s.heap.size)
  generalize hAe : va_A (wE a cI cL) s.heap.size = A at hD ⊢
  have hA : ∀ q : Nat, s.heap.size ≤ q → A q := fun q h => by rw [← hAe]; exact Or.inr h
  have hS : va_S A s.heap s.heap [] := va_S.rf
  have hl := lv_entry ([.long p0]) (n := 2) (Nat.le_of_ble_eq_true rfl)
  rw [lg_entry_eq]
  generalize (lg_sl ([.long p0]) ++ List.replicate (2 - (lg_sl ([.long p0])).length) Slot.unset).toArray = ls at hl ⊢
  have hl : lv_has ls 2 [(0, .long p0)] := hl
  have hf : pf_X4_duties p0 = some res := hf
  refine lv_lload_n hx hb dX4_duties_0 rfl (lv_at hl 0 rfl) ?_
  obtain ⟨r1, hc, hf⟩ := jx_bs hf
  refine jx_ki (wr := []) (ws2 := (wE a cI cL)) (jx_runS (As := [.long p0]) (rest := []) ⟨hx, hb, hml, hown, hts⟩ (c_X4_itemsIn l D a cI cL p0 r1 hc _) (va_cwS 1 hts gX4_duties_X4_itemsIn rfl rfl rfl (by decide +kernel) ⟨Nat.le_of_ble_eq_true rfl, Nat.le_of_ble_eq_true rfl⟩) hK hN hP hD [] rfl (by decide) rfl hl.1 rfl (Nat.le_of_ble_eq_true rfl) dX4_duties_1 ⟨Nat.le_of_ble_eq_true rfl, Nat.le_of_ble_eq_true rfl⟩) hP hD hS hA [] [] [] rfl rfl (by decide) (by decide) rfl (by decide) (fun H locs hP hD hS => ?_)
  clear hc
  refine lv_bipush (v := 63) hx hb dX4_duties_4 (by decide) ?_
  refine lv_iand hx hb dX4_duties_6 ?_
  have he := jx_eq hf
  subst he
  exact jx_reti hx hb hr hlocks rfl hK hP hD hS dX4_duties_7
set_option maxHeartbeats 4000000 in
set_option maxRecDepth 100000 in
theorem c_X4_looser (l : Launch) (D : va_G) (a : Nat → Nat) (cI cL : ClassId) (p0 : Int64) (p1 : Int64) (res : Int32) (hf : pf_X4_looser p0 p1 = some res) : jMi l yX4_looser wsX4_looser ({ frames := 0, cells := 0, slots := 0, locals := 0 }) D [(cI, .int), (cL, .long)] [.long p0, .long p1] (wE a cI cL) res (wE a cI cL) := by
  intro sz
  refine Met.ofW (cc := cX4_looser) (maxL := 6) (ret := (some .int)) (by decide) rfl ?_
  intro p e s m args below meth c s₁ B hml hv
  obtain ⟨rfl, hsz, hP, hK, hD0, hN⟩ := hv
  have hx := B.exec
  have hb := B.bytes
  have hr := B.returns
  have hts := atoms_spec (ws := wsX4_looser) B.pre
  have hown : s.vm.findClass RX4 = some m.cls := findClass_of_methodNamed B.named
  have hlocks := B.notSynchronized
  subst hsz
  have hD := hD0.self (sz := s.heap.size)
  generalize hAe : va_A (wE a cI cL) s.heap.size = A at hD ⊢
  have hA : ∀ q : Nat, s.heap.size ≤ q → A q := fun q h => by rw [← hAe]; exact Or.inr h
  have hS : va_S A s.heap s.heap [] := va_S.rf
  have hl := lv_entry ([.long p0, .long p1]) (n := 6) (Nat.le_of_ble_eq_true rfl)
  rw [lg_entry_eq]
  generalize (lg_sl ([.long p0, .long p1]) ++ List.replicate (6 - (lg_sl ([.long p0, .long p1])).length) Slot.unset).toArray = ls at hl ⊢
  have hl : lv_has ls 6 [(0, .long p0), (2, .long p1)] := hl
  have hf : pf_X4_looser p0 p1 = some res := hf
  refine lv_lload_n hx hb dX4_looser_0 rfl (lv_at hl 0 rfl) ?_
  refine lv_lload_n hx hb dX4_looser_1 rfl (lv_at hl 1 rfl) ?_
  refine lv_ldc2 (v := -1) hx hb hown (hts (.constantLong RX4 13 (-1)) (by decide +kernel)) dX4_looser_2 ?_
  refine lv_lxor hx hb dX4_looser_5 ?_
  refine lv_land hx hb dX4_looser_6 ?_
  refine lv_lconst (v := 0) hx hb dX4_looser_7 (by decide) ?_
  refine W.lcmp hx hb dX4_looser_8 ?_
  refine W.eq (g2 := F0 m 9 ls [.int (lg_cmp (p0 &&& (p1 ^^^ (-1 : Int64))) (0 : Int64))]) rfl ?_
  obtain ⟨j1, hf, hkj1⟩ := jx_bs hf
  have hJj1 : ∀ (H : Heap) (locs : List Loc) (ls : Array Slot), va_P D vwCl (wE a cI cL) H → va_D A (wE a cI cL) → va_S A s.heap H locs → lv_has ls 6 [(0, .long p0), (2, .long p1)] → jx_Wi p l e wsX4_looser ({ frames := 0, cells := 0, slots := 0, locals := 0 }) s m [.long p0, .long p1] below meth c D [(cI, .int), (cL, .long)] res (wE a cI cL) A H locs (F0 m 17 ls [.int j1]) := by
    clear hf hP hD hS hl
    intro H locs ls hP hD hS hl
    have hf := hkj1
    refine lv_istore (lv' := [(4, .int j1), (0, .long p0), (2, .long p1)]) hx hb dX4_looser_17 hl (by decide) rfl (fun ls hl => ?_)
    refine lv_lload_n hx hb dX4_looser_19 rfl (lv_at hl 2 rfl) ?_
    refine lv_lload_n hx hb dX4_looser_20 rfl (lv_at hl 1 rfl) ?_
    refine lv_ldc2 (v := -1) hx hb hown (hts (.constantLong RX4 13 (-1)) (by decide +kernel)) dX4_looser_21 ?_
    refine lv_lxor hx hb dX4_looser_24 ?_
    refine lv_land hx hb dX4_looser_25 ?_
    refine lv_lconst (v := 0) hx hb dX4_looser_26 (by decide) ?_
    refine W.lcmp hx hb dX4_looser_27 ?_
    refine W.eq (g2 := F0 m 28 ls [.int (lg_cmp (p1 &&& (p0 ^^^ (-1 : Int64))) (0 : Int64))]) rfl ?_
    obtain ⟨j2, hf, hkj2⟩ := jx_bs hf
    have hJj2 : ∀ (H : Heap) (locs : List Loc) (ls : Array Slot), va_P D vwCl (wE a cI cL) H → va_D A (wE a cI cL) → va_S A s.heap H locs → lv_has ls 6 [(4, .int j1)] → jx_Wi p l e wsX4_looser ({ frames := 0, cells := 0, slots := 0, locals := 0 }) s m [.long p0, .long p1] below meth c D [(cI, .int), (cL, .long)] res (wE a cI cL) A H locs (F0 m 36 ls [.int j2]) := by
      clear hf hP hD hS hl
      intro H locs ls hP hD hS hl
      have hf := hkj2
      refine lv_istore (lv' := [(5, .int j2), (4, .int j1)]) hx hb dX4_looser_36 hl (by decide) rfl (fun ls hl => ?_)
      refine lv_iload hx hb dX4_looser_38 (lv_at hl 1 rfl) ?_
      refine lv_iload hx hb dX4_looser_40 (lv_at hl 0 rfl) ?_
      refine lv_iadd hx hb dX4_looser_42 ?_
      have he := jx_eq hf
      subst he
      exact jx_reti hx hb hr hlocks rfl hK hP hD hS dX4_looser_43
    refine lv_if_ne (tgt := 35) hx hb dX4_looser_28 (by decide) (fun hq => ?_) (fun hq => ?_)
    · replace hf := jx_pos hq hf
      refine lv_iconst (v := 0) hx hb dX4_looser_35 (by decide) ?_
      have he := jx_eq hf
      subst he
      exact hJj2 _ _ _ hP hD hS (lv_sub hl [0] rfl)
    · replace hf := jx_negn hq hf
      refine lv_iconst (v := 2) hx hb dX4_looser_31 (by decide) ?_
      refine lv_goto (tgt := 36) hx hb dX4_looser_32 (by decide) ?_
      have he := jx_eq hf
      subst he
      exact hJj2 _ _ _ hP hD hS (lv_sub hl [0] rfl)
  refine lv_if_ne (tgt := 16) hx hb dX4_looser_9 (by decide) (fun hq => ?_) (fun hq => ?_)
  · replace hf := jx_pos hq hf
    refine lv_iconst (v := 0) hx hb dX4_looser_16 (by decide) ?_
    have he := jx_eq hf
    subst he
    exact hJj1 _ _ _ hP hD hS (lv_sub hl [0, 1] rfl)
  · replace hf := jx_negn hq hf
    refine lv_iconst (v := 1) hx hb dX4_looser_12 (by decide) ?_
    refine lv_goto (tgt := 17) hx hb dX4_looser_13 (by decide) ?_
    have he := jx_eq hf
    subst he
    exact hJj1 _ _ _ hP hD hS (lv_sub hl [0, 1] rfl)
set_option maxHeartbeats 4000000 in
set_option maxRecDepth 100000 in
theorem c_X6_isItem (l : Launch) (D : va_G) (a : Nat → Nat) (cI cL : ClassId) (p0 : Int32) (res : Int32) (hf : pf_X6_isItem p0 = some res) : jMi l yX6_isItem wsX6_isItem ({ frames := 0, cells := 0, slots := 0, locals := 0 }) D [(cI, .int), (cL, .long)] [.int p0] (wE a cI cL) res (wE a cI cL) := by
  intro sz
  refine Met.ofW (cc := cX6_isItem) (maxL := 1) (ret := (some .boolean)) (by decide) rfl ?_
  intro p e s m args below meth c s₁ B hml hv
  obtain ⟨rfl, hsz, hP, hK, hD0, hN⟩ := hv
  have hx := B.exec
  have hb := B.bytes
  have hr := B.returns
  have hts := atoms_spec (ws := wsX6_isItem) B.pre
  have hown : s.vm.findClass RX6 = some m.cls := findClass_of_methodNamed B.named
  have hlocks := B.notSynchronized
  subst hsz
  have hD := hD0.self (sz := s.heap.size)
  generalize hAe : va_A (wE a cI cL) s.heap.size = A at hD ⊢
  have hA : ∀ q : Nat, s.heap.size ≤ q → A q := fun q h => by rw [← hAe]; exact Or.inr h
  have hS : va_S A s.heap s.heap [] := va_S.rf
  have hl := lv_entry ([.int p0]) (n := 1) (Nat.le_of_ble_eq_true rfl)
  rw [lg_entry_eq]
  generalize (lg_sl ([.int p0]) ++ List.replicate (1 - (lg_sl ([.int p0])).length) Slot.unset).toArray = ls at hl ⊢
  have hl : lv_has ls 1 [(0, .int p0)] := hl
  have hf : pf_X6_isItem p0 = some res := hf
  refine lv_iload_n hx hb dX6_isItem_0 rfl (lv_at hl 0 rfl) ?_
  refine lv_if_lt (tgt := 14) hx hb dX6_isItem_1 (by decide) (fun hq => ?_) (fun hq => ?_)
  · replace hf := jx_pos hq hf
    refine lv_iconst (v := 0) hx hb dX6_isItem_14 (by decide) ?_
    have he := jx_eq hf
    subst he
    exact jx_retz hx hb hr hlocks narrow_b0 rfl hK hP hD hS dX6_isItem_15
  · replace hf := jx_neg hq hf
    refine lv_iload_n hx hb dX6_isItem_4 rfl (lv_at hl 0 rfl) ?_
    refine lv_bipush (v := 12) hx hb dX6_isItem_5 (by decide) ?_
    refine lv_icmp_ge (tgt := 14) hx hb dX6_isItem_7 (by decide) (fun hq => ?_) (fun hq => ?_)
    · replace hf := jx_pos hq hf
      refine lv_iconst (v := 0) hx hb dX6_isItem_14 (by decide) ?_
      have he := jx_eq hf
      subst he
      exact jx_retz hx hb hr hlocks narrow_b0 rfl hK hP hD hS dX6_isItem_15
    · replace hf := jx_neg hq hf
      refine lv_iconst (v := 1) hx hb dX6_isItem_10 (by decide) ?_
      refine lv_goto (tgt := 15) hx hb dX6_isItem_11 (by decide) ?_
      have he := jx_eq hf
      subst he
      exact jx_retz hx hb hr hlocks narrow_b1 rfl hK hP hD hS dX6_isItem_15
set_option maxHeartbeats 4000000 in
set_option maxRecDepth 100000 in
theorem c_X6_mix (l : Launch) (D : va_G) (a : Nat → Nat) (cI cL : ClassId) (p0 : Int64) (p1 : Int64) (res : Int64) (hf : pf_X6_mix p0 p1 = some res) : jMl l yX6_mix wsX6_mix ({ frames := 0, cells := 0, slots := 0, locals := 0 }) D [(cI, .int), (cL, .long)] [.long p0, .long p1] (wE a cI cL) res (wE a cI cL) := by
  intro sz
  refine Met.ofW (cc := cX6_mix) (maxL := 4) (ret := (some .long)) (by decide) rfl ?_
  intro p e s m args below meth c s₁ B hml hv
  obtain ⟨rfl, hsz, hP, hK, hD0, hN⟩ := hv
  have hx := B.exec
  have hb := B.bytes
  have hr := B.returns
  have hts := atoms_spec (ws := wsX6_mix) B.pre
  have hown : s.vm.findClass RX6 = some m.cls := findClass_of_methodNamed B.named
  have hlocks := B.notSynchronized
  subst hsz
  have hD := hD0.self (sz := s.heap.size)
  generalize hAe : va_A (wE a cI cL) s.heap.size = A at hD ⊢
  have hA : ∀ q : Nat, s.heap.size ≤ q → A q := fun q h => by rw [← hAe]; exact Or.inr h
  have hS : va_S A s.heap s.heap [] := va_S.rf
  have hl := lv_entry ([.long p0, .long p1]) (n := 4) (Nat.le_of_ble_eq_true rfl)
  rw [lg_entry_eq]
  generalize (lg_sl ([.long p0, .long p1]) ++ List.replicate (4 - (lg_sl ([.long p0, .long p1])).length) Slot.unset).toArray = ls at hl ⊢
  have hl : lv_has ls 4 [(0, .long p0), (2, .long p1)] := hl
  have hf : pf_X6_mix p0 p1 = some res := hf
  refine lv_ldc2 (v := 31) hx hb hown (hts (.constantLong RX6 222 (31)) (by decide +kernel)) dX6_mix_0 ?_
  refine lv_lload_n hx hb dX6_mix_3 rfl (lv_at hl 0 rfl) ?_
  refine lv_lmul hx hb dX6_mix_4 ?_
  refine lv_lload_n hx hb dX6_mix_5 rfl (lv_at hl 1 rfl) ?_
  refine lv_ladd hx hb dX6_mix_6 ?_
  have he := jx_eq hf
  subst he
  exact jx_retl hx hb hr hlocks rfl hK hP hD hS dX6_mix_7
