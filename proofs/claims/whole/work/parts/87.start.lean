set_option maxHeartbeats 4000000 in
set_option maxRecDepth 100000 in
/-- YOUR PART: from the entry, for every script of at most 2048 ints, the law comes to its end with true ('hflags': the launch's flags, for a law that throws: no stack traces) -/
theorem whole_start {p : Program} {e : Env} {s : State} {m : MethodId} {below : List Frame} {meth : Method} {c : Code} (l : Launch) (hflags : l.flags = flags0) {b L : Nat} {xs : Nat → Int32} (hL : L ≤ 2048) (C0 : lw_At p s m meth c b L xs) : W p l e room_1 s m #[Value.ref b] below meth c s.heap [] 0 0 (lw_Z below #[Value.ref b] s) (entryFrame m ([Value.ref b] : List Value).toArray 4) := by
  obtain ⟨hx, hb, hr, hml, hown, hts, hX, hbl, hlocks, hgv⟩ := id C0
  have hA : ∀ q : Nat, s.heap.size ≤ q → (fun q : Nat => s.heap.size ≤ q) q := fun _ h => h
  have hbA : ¬ (fun q : Nat => s.heap.size ≤ q) b := Nat.not_le.mpr hbl
  obtain ⟨c0, i0, h0⟩ := u_known (C := RX0) (T := TX0) (N := 2) (n := 2) hts in_X0 (hts (.instantiable RX0 2) (lin_1 _ (List.mem_of_getElem? (i := 17) rfl)))
  obtain ⟨c1, i1, h1⟩ := u_known (C := RX1) (T := TX1) (N := 4) (n := 4) hts in_X1 (hts (.instantiable RX1 4) (lin_2 _ (List.mem_of_getElem? (i := 5) rfl)))
  obtain ⟨c2, i2, h2⟩ := u_known (C := RX2) (T := TX2) (N := 2) (n := 2) hts in_X2 (hts (.instantiable RX2 2) (lin_1 _ (List.mem_of_getElem? (i := 13) rfl)))
  obtain ⟨c3, i3, h3⟩ := u_known (C := RX3) (T := TX3) (N := 8) (n := 8) hts in_X3 (hts (.instantiable RX3 8) (lin_1 _ (List.mem_of_getElem? (i := 21) rfl)))
  obtain ⟨c4, i4, h4⟩ := u_known (C := RX5) (T := TX5) (N := 2) (n := 2) hts in_X5 (hts (.instantiable RX5 2) (lin_2 _ (List.mem_of_getElem? (i := 1) rfl)))
  obtain ⟨c5, i5, h5⟩ := u_known (C := RX6) (T := TX6) (N := 5) (n := 5) hts in_X6 (hts (.instantiable RX6 5) (lin_1 _ (List.mem_of_getElem? (i := 1) rfl)))
  obtain ⟨c6, i6, h6⟩ := u_known (C := RX7) (T := TX7) (N := 14) (n := 14) hts in_X7 (hts (.instantiable RX7 14) (lin_1 _ (List.mem_of_getElem? (i := 4) rfl)))
  obtain ⟨D, hKc⟩ : ∃ (D : va_G), ∀ (k : Nat) (q : vw_C), vwCl[k]? = some q → u_Kn s q.1 q.2.1 q.2.2 (D.1 k) (D.2 k) := by
    refine ⟨(fun k => match k with | 0 => c0 | 1 => c1 | 2 => c2 | 3 => c3 | 4 => c4 | 5 => c5 | _ => c6, fun k => match k with | 0 => i0 | 1 => i1 | 2 => i2 | 3 => i3 | 4 => i4 | 5 => i5 | _ => i6), ?_⟩
    intro k q hq
    match k, hq with
    | 0, hq => cases hq; exact h0
    | 1, hq => cases hq; exact h1
    | 2, hq => cases hq; exact h2
    | 3, hq => cases hq; exact h3
    | 4, hq => cases hq; exact h4
    | 5, hq => cases hq; exact h5
    | 6, hq => cases hq; exact h6
    | k + 7, hq => simp at hq
  obtain ⟨cI, kI, mI, f1, f2, f3⟩ := Cond.arrayClass_spec (hts (.arrayClass .int) (lin_2 _ (List.mem_of_getElem? (i := 11) rfl)))
  obtain ⟨cL, kL, mL, g1, g2, g3⟩ := Cond.arrayClass_spec (hts (.arrayClass .long) (lin_2 _ (List.mem_of_getElem? (i := 17) rfl)))
  have hK : va_K D vwCl [(cI, .int), (cL, .long)] s := by
    refine ⟨hKc, fun k q hq => ?_⟩
    match k, hq with
    | 0, hq => cases hq; exact ⟨fun n z => ⟨fun k h => (by cases h), kI, f2, mI, f3⟩, f1⟩
    | 1, hq => cases hq; exact ⟨fun n z => ⟨fun k h => (by cases h), kL, g2, mL, g3⟩, g1⟩
    | k + 2, hq => simp at hq
  have hN : jx_N s := fun w hw => va_Nw.of (jx_nw_tab w hw) (hts w (List.mem_append_right _ (jx_nw_in w hw)))
  have hS : va_S (fun q : Nat => s.heap.size ≤ q) s.heap s.heap [] := va_S.rf
  have hP : va_P D vwCl [] s.heap := fun k q h => by simp at h
  have hD : va_D (fun q : Nat => s.heap.size ≤ q) [] := ⟨fun i j p q h => by simp at h, fun k q h => by simp at h⟩
  have hl := lv_entry ([.ref b]) (n := 4) (Nat.le_of_ble_eq_true rfl)
  rw [lg_entry_eq]
  generalize (lg_sl ([.ref b]) ++ List.replicate (4 - (lg_sl ([.ref b])).length) Slot.unset).toArray = ls at hl ⊢
  have hl : lv_has ls 4 [(0, .ref b)] := hl
  refine va_new (ci := 5) (fs := [.null, .null, .null, .null, .null]) (C := RX6) (T := TX6) (N := 5) hx hb hts in_X6 tyX6 tyX6_ok hown (hts (.classLink RL 7 RX6) (lin_1 _ (List.mem_of_getElem? (i := 0) rfl))) (hts (.instantiable RX6 5) (lin_1 _ (List.mem_of_getElem? (i := 1) rfl))) (hts (.initialized RX6) (lin_1 _ (List.mem_of_getElem? (i := 2) rfl))) hK hP hD hS hA rfl (by decide) (Nat.le_of_ble_eq_true rfl) (Nat.le_of_ble_eq_true rfl) dL_law_0 (fun h H hP hD hS => ?_)
  have hP : va_P D vwCl [(h, .inr (5, [.null, .null, .null, .null, .null]))] H := hP
  have hD : va_D (fun q : Nat => s.heap.size ≤ q) [(h, .inr (5, [.null, .null, .null, .null, .null]))] := hD
  refine lv_dup hx hb dL_law_3 rfl ?_
  refine jx_kc (wr := []) (jx_runI (As := []) (rest := [.ref h]) ⟨hx, hb, hml, hown, hts⟩ (k_X6_init l D h cI cL _) (cwI 0 hts gw_X6_init rfl rfl rfl (hts (.initialized RX6) (lin_1 _ (List.mem_of_getElem? (i := 2) rfl))) (hts (.methodLink RL 9 yX6_init) (lin_1 _ (List.mem_of_getElem? (i := 6) rfl))) (hts (.instanceMethod yX6_init) (lin_1 _ (List.mem_of_getElem? (i := 7) rfl))) rfl (by decide +kernel) ⟨Nat.le_of_ble_eq_true rfl, Nat.le_of_ble_eq_true rfl⟩) hK hN hP hD [0] rfl (by decide) rfl hl.1 rfl (Nat.le_of_ble_eq_true rfl) dL_law_4 ⟨Nat.le_of_ble_eq_true rfl, Nat.le_of_ble_eq_true rfl⟩) hP hD hS hA [0] [] rfl rfl (by decide) (by decide) (fun u H locs hP hD hS => ?_)
  have hP : va_P D vwCl (wX (fun k => match k with | 0 => h | k + 1 => u k) cI cL 0 (fun _ => 0) 0 (fun _ => 0) (fun _ => 0) (fun _ => 0) jx_fillv (fun _ => 0) (fun _ => 0) 0 0 0 (fun _ => 0) (fun _ => 0) (fun _ => 0) (-1)) H := hP
  have hD : va_D (fun q : Nat => s.heap.size ≤ q) (wX (fun k => match k with | 0 => h | k + 1 => u k) cI cL 0 (fun _ => 0) 0 (fun _ => 0) (fun _ => 0) (fun _ => 0) jx_fillv (fun _ => 0) (fun _ => 0) 0 0 0 (fun _ => 0) (fun _ => 0) (fun _ => 0) (-1)) := hD
  refine lv_astore_n (lv' := [(1, .ref h), (0, .ref b)]) hx hb dL_law_7 rfl hl (by decide) rfl (fun ls hl => ?_)
  refine va_new (ci := 6) (fs := [.int 0, .null, .int 0, .null, .int 0, .null, .null, .int 0, .int 0, .null, .null, .int 0, .null, .long 0]) (C := RX7) (T := TX7) (N := 14) hx hb hts in_X7 tyX7 tyX7_ok hown (hts (.classLink RL 10 RX7) (lin_1 _ (List.mem_of_getElem? (i := 3) rfl))) (hts (.instantiable RX7 14) (lin_1 _ (List.mem_of_getElem? (i := 4) rfl))) (hts (.initialized RX7) (lin_1 _ (List.mem_of_getElem? (i := 5) rfl))) hK hP hD hS hA rfl (by decide) (Nat.le_of_ble_eq_true rfl) (Nat.le_of_ble_eq_true rfl) dL_law_8 (fun h' H hP hD hS => ?_)
  have hP : va_P D vwCl (wX (fun k => match k with | 0 => h | k + 1 => u k) cI cL 0 (fun _ => 0) 0 (fun _ => 0) (fun _ => 0) (fun _ => 0) jx_fillv (fun _ => 0) (fun _ => 0) 0 0 0 (fun _ => 0) (fun _ => 0) (fun _ => 0) (-1) ++ [(h', .inr (6, [.int 0, .null, .int 0, .null, .int 0, .null, .null, .int 0, .int 0, .null, .null, .int 0, .null, .long 0]))]) H := hP
  have hD : va_D (fun q : Nat => s.heap.size ≤ q) (wX (fun k => match k with | 0 => h | k + 1 => u k) cI cL 0 (fun _ => 0) 0 (fun _ => 0) (fun _ => 0) (fun _ => 0) jx_fillv (fun _ => 0) (fun _ => 0) 0 0 0 (fun _ => 0) (fun _ => 0) (fun _ => 0) (-1) ++ [(h', .inr (6, [.int 0, .null, .int 0, .null, .int 0, .null, .null, .int 0, .int 0, .null, .null, .int 0, .null, .long 0]))]) := hD
  refine lv_dup hx hb dL_law_11 rfl ?_
  refine jx_kc (wr := wX (fun k => match k with | 0 => h | k + 1 => u k) cI cL 0 (fun _ => 0) 0 (fun _ => 0) (fun _ => 0) (fun _ => 0) jx_fillv (fun _ => 0) (fun _ => 0) 0 0 0 (fun _ => 0) (fun _ => 0) (fun _ => 0) (-1)) (jx_runI (As := []) (rest := [.ref h']) ⟨hx, hb, hml, hown, hts⟩ (k_X7_init l D h' cI cL _) (cwI 0 hts gw_X7_init rfl rfl rfl (hts (.initialized RX7) (lin_1 _ (List.mem_of_getElem? (i := 5) rfl))) (hts (.methodLink RL 12 yX7_init) (lin_4 _ (List.mem_of_getElem? (i := 2) rfl))) (hts (.instanceMethod yX7_init) (lin_4 _ (List.mem_of_getElem? (i := 3) rfl))) rfl (by decide +kernel) ⟨Nat.le_of_ble_eq_true rfl, Nat.le_of_ble_eq_true rfl⟩) hK hN hP hD [16] rfl (by decide) rfl hl.1 rfl (Nat.le_of_ble_eq_true rfl) dL_law_12 ⟨Nat.le_of_ble_eq_true rfl, Nat.le_of_ble_eq_true rfl⟩) hP hD hS hA [16] [0, 1, 2, 3, 4, 5, 6, 7, 8, 9, 10, 11, 12, 13, 14, 15] rfl rfl (by decide) (by decide) (fun u' H locs hP hD hS => ?_)
  have hP : va_P D vwCl (wX (fun k => match k with | 0 => h | k + 1 => u k) cI cL 0 (fun _ => 0) 0 (fun _ => 0) (fun _ => 0) (fun _ => 0) jx_fillv (fun _ => 0) (fun _ => 0) 0 0 0 (fun _ => 0) (fun _ => 0) (fun _ => 0) (-1) ++ wM (fun k => match k with | 0 => h' | k + 1 => u' k) cI cL 0 (fun _ => 0) 0 (fun _ => 0) 0 (fun _ => 0) (fun _ => 0) 0 0 (fun _ => 0) (fun _ => 0) 0 (fun _ => 0) 0) H := hP
  have hD : va_D (fun q : Nat => s.heap.size ≤ q) (wX (fun k => match k with | 0 => h | k + 1 => u k) cI cL 0 (fun _ => 0) 0 (fun _ => 0) (fun _ => 0) (fun _ => 0) jx_fillv (fun _ => 0) (fun _ => 0) 0 0 0 (fun _ => 0) (fun _ => 0) (fun _ => 0) (-1) ++ wM (fun k => match k with | 0 => h' | k + 1 => u' k) cI cL 0 (fun _ => 0) 0 (fun _ => 0) 0 (fun _ => 0) (fun _ => 0) 0 0 (fun _ => 0) (fun _ => 0) 0 (fun _ => 0) 0) := hD
  refine lv_astore_n (lv' := [(2, .ref h'), (1, .ref h), (0, .ref b)]) hx hb dL_law_15 rfl hl (by decide) rfl (fun ls hl => ?_)
  refine lv_iconst (v := 0) hx hb dL_law_16 (by decide) ?_
  refine lv_istore_n (lv' := [(3, .int 0), (2, .ref h'), (1, .ref h), (0, .ref b)]) hx hb dL_law_17 rfl hl (by decide) rfl (fun ls hl => ?_)
  have hgo := law_loop (p := p) (l := l) (e := e) (below := below) (a := fun k => match k with | 0 => h | k + 1 => u k) (g := fun k => match k with | 0 => h' | k + 1 => u' k) hL C0 hK hN (L + 4) 0 (by omega) (by omega)
  exact hgo 0 (fun _ => 0) 0 (fun _ => 0) (fun _ => 0) (fun _ => 0) jx_fillv (fun _ => 0) (fun _ => 0) 0 0 0 (fun _ => 0) (fun _ => 0) (fun _ => 0) (-1) 0 (fun _ => 0) 0 (fun _ => 0) 0 (fun _ => 0) (fun _ => 0) 0 0 (fun _ => 0) (fun _ => 0) 0 (fun _ => 0) 0 H locs ls LR_0 hP hD hS hl
