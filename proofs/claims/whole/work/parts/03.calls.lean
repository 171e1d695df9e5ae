/-! the nest's links, contracts of one form, a call in one row -/
def jx_nw : List Cond := [.methodLinkNest "PassedDuties" 11 yX2_init "PassedDuties", .fieldLinkNest "PassedDuties" 200 "PassedDuties$Page" "codes" "[I" "PassedDuties", .fieldLinkNest "PassedDuties" 46 "PassedDuties$Page" "length" "I" "PassedDuties", .methodLinkNest "PassedDuties" 18 yX0_init "PassedDuties", .fieldLinkNest "PassedDuties" 76 "PassedDuties$Book" "rows" "[J" "PassedDuties", .fieldLinkNest "PassedDuties" 153 "PassedDuties$Book" "size" "I" "PassedDuties", .fieldLinkNest "PassedDuties" 101 "PassedDuties$Parts" "under" "[I" "PassedDuties", .fieldLinkNest "PassedDuties$Ways" 37 "PassedDuties$Parts" "own" "[J" "PassedDuties", .fieldLinkNest "PassedDuties$Clashes" 26 "PassedDuties$Parts" "come" "[J" "PassedDuties", .fieldLinkNest "PassedDuties" 116 "PassedDuties$Parts" "come" "[J" "PassedDuties", .fieldLinkNest "PassedDuties$Clashes" 52 "PassedDuties$Parts" "there" "I" "PassedDuties", .fieldLinkNest "PassedDuties" 156 "PassedDuties$Parts" "there" "I" "PassedDuties", .fieldLinkNest "PassedDuties" 177 "PassedDuties$Parts" "timesLeft" "I" "PassedDuties", .fieldLinkNest "PassedDuties$Clashes" 65 "PassedDuties$Parts" "changes" "I" "PassedDuties", .methodLinkNest "PassedDuties$Page" 26 yX6_isSet "PassedDuties", .methodLinkNest "PassedDuties$Reaches" 9 yX6_isSet "PassedDuties", .methodLinkNest "PassedDuties$Parts" 44 yX6_isSet "PassedDuties", .methodLinkNest "PassedDuties$Clashes" 45 yX6_isSet "PassedDuties"]
def jx_N (U : State) : Prop := ∀ w ∈ jx_nw, va_Nw w U
def jx_isN : Cond → Bool
  | .methodLinkNest _ _ _ _ => true
  | .fieldLinkNest _ _ _ _ _ _ => true
  | _ => false
theorem jx_nw_isN : ∀ w ∈ jx_nw, jx_isN w = true := by decide +kernel
theorem jx_nw_tab : ∀ w ∈ jx_nw, w.onTables = true := by decide +kernel
theorem jx_nw_in : ∀ w ∈ jx_nw, w ∈ tables_1 := by decide +kernel
theorem jx_N_warm {s U : State} (hW : s.WarmedH U.vm) (h : jx_N s) : jx_N U := by
  intro w hw
  have h1 := h w hw
  have h2 := jx_nw_isN w hw
  revert h1 h2
  cases w <;> intro h1 h2 <;> first | (exact va_Nw.warmM hW h1) | (exact va_Nw.warmF hW h1) | (exact absurd h2 (by decide)) | (simp [jx_isN] at h2)
theorem jx_N_same {u U : State} (h : u.vm = U.vm) (hN : jx_N u) : jx_N U := fun w hw => va_Nw.same (jx_nw_tab w hw) h (hN w hw)
theorem jx_fm {α β : Type} {f : α → Option β} {is : List α} {w : List β} (h : is.map f = w.map some) : is.filterMap f = w := by
  have h1 : is.filterMap f = (is.map f).filterMap id := by rw [List.filterMap_map]; rfl
  rw [h1, h, List.filterMap_map]
  simp
abbrev jx_pre (D : va_G) (tys : List (ClassId × FieldType)) (av : List Value) (ws : va_W) (sz : Nat) : Array Value → State → Prop := va_Pc av (fun U => U.heap.size = sz ∧ va_P D vwCl ws U.heap ∧ va_K D vwCl tys U ∧ va_D (fun _ => True) ws ∧ jx_N U)
abbrev jx_B (D : va_G) (tys : List (ClassId × FieldType)) (ws' : va_W) (A : Nat → Prop) : Unit → State → Prop := fun _ t => va_P D vwCl ws' t.heap ∧ va_K D vwCl tys t ∧ va_D A ws'
abbrev jx_qi (r : Int32) : Int32 → Unit → Prop := fun r' _ => r' = r
abbrev jx_ql (r : Int64) : Int64 → Unit → Prop := fun r' _ => r' = r
abbrev jx_qv : Unit → Prop := fun _ => True
def jMi (l : Launch) (y : MethodName) (wds : List Cond) (rm : Room) (D : va_G) (tys : List (ClassId × FieldType)) (av : List Value) (ws : va_W) (r : Int32) (ws' : va_W) : Prop := ∀ sz : Nat, Met l y wds rm (jx_pre D tys av ws sz) (va_Qi (jx_qi r) (jx_B D tys ws' (va_A ws sz)) (va_A ws sz)) 0 0 (va_A ws sz)
def jMl (l : Launch) (y : MethodName) (wds : List Cond) (rm : Room) (D : va_G) (tys : List (ClassId × FieldType)) (av : List Value) (ws : va_W) (r : Int64) (ws' : va_W) : Prop := ∀ sz : Nat, Met l y wds rm (jx_pre D tys av ws sz) (va_Ql (jx_ql r) (jx_B D tys ws' (va_A ws sz)) (va_A ws sz)) 0 0 (va_A ws sz)
def jMv (l : Launch) (y : MethodName) (wds : List Cond) (rm : Room) (D : va_G) (tys : List (ClassId × FieldType)) (av : List Value) (ws : va_W) (ws' : va_W) : Prop := ∀ sz : Nat, Met l y wds rm (jx_pre D tys av ws sz) (va_Qv jx_qv (jx_B D tys ws' (va_A ws sz)) (va_A ws sz)) 0 0 (va_A ws sz)
theorem jx_blind (D : va_G) (tys : List (ClassId × FieldType)) (av : List Value) (ws : va_W) (sz : Nat) : FrameBlind (jx_pre D tys av ws sz) := fun a U g mk q => by
  obtain ⟨q0, q1, qP, qK, qD, qN⟩ := q
  exact ⟨q0, q1, qP, va_K.moved (u := U) (U := U.calling g mk a) (Vm.Alike.refl U.vm) qK, qD, jx_N_same (u := U) (U := U.calling g mk a) rfl qN⟩
section JXC
variable {p : Program} {l : Launch} {e : Env} {R : Room} {s : State} {m : MethodId} {args : Array Value} {below : List Frame} {meth : Method} {c : Code} {H : Heap} {locs : List Loc} {cells slots : Nat} {Q : State → Prop} {pc : Nat} {ls : Array Slot} {rest st0 : List Value} {D : va_G} {tys : List (ClassId × FieldType)} {A : Nat → Prop} {H0 : Heap} {ws wc wc' wr ws2 : va_W} {cc : ByteArray}
theorem jx_prep (hK : va_K D vwCl tys s) (hN : jx_N s) (hP : va_P D vwCl ws H) (hD : va_D A ws) (isC : List Nat) (hC : isC.map (fun i => ws[i]?) = wc.map some) (hnd : va_nd isC = true) (av : List Value) : ∀ U : State, U.heap = H → s.WarmedH U.vm → jx_pre D tys av wc H.size av.toArray U := fun U hU hW =>
  ⟨rfl, by rw [hU], by rw [hU]; exact hP.sub isC (jx_fm hC), va_K.moved hW.alike hK, (hD.sub isC hnd hC).weaken (fun _ _ _ _ => trivial), jx_N_warm hW hN⟩
theorem jx_runV {y : MethodName} {bytes : ByteArray} {maxL nL n index : Nat} {ret : Option FieldType} {wds : List Cond} {rm : Room} {Qc : Array Value → State → Outcome → State → Prop} {Ts : List Cond} {own C : String} {b : Addr} {As : List Value} {T : u_T} {N : Nat} {fs : List Value} (S : CallFix p m c cc nL s args Ts own) (hM : Met l y wds rm (jx_pre D tys (.ref b :: As) wc H.size) Qc 0 0 (va_A wc H.size)) (cw : CallW R s args own C index y bytes maxL ret wds rm 0 0 n) (hK : va_K D vwCl tys s) (hN : jx_N s) (hP : va_P D vwCl ws H) (hD : va_D A ws) (isC : List Nat) (hC : isC.map (fun i => ws[i]?) = wc.map some) (hnd : va_nd isC = true) (q0 ci : Nat) (hcl : vwCl[ci]? = some (C, T, N)) (he : ws[q0]? = some (b, .inr (ci, fs)))
    (hn : As.length = n) (hsize : ls.size = nL) (hstack : st0 = As.reverse ++ .ref b :: rest) (hW : (rest.map fun v => v.category).sum ≤ 8) (hdg : decode cc pc = .ok (.invokevirtual index, 3)) (hf : cells + 0 ≤ R.cells ∧ slots + 0 ≤ R.slots) :
    va_Run p l e R s m args below meth c H locs cells slots 0 0 (F0 m pc ls st0) rest (Qc (Value.ref b :: As).toArray) (va_A wc H.size) :=
  va_runV S hM cw ⟨jx_blind D tys _ wc H.size, va_recv hK hP hcl he, jx_prep hK hN hP hD isC hC hnd _⟩ rfl hn hsize hstack (lv_room hW) hdg hf
theorem jx_runS {y : MethodName} {bytes : ByteArray} {maxL nL n index : Nat} {ret : Option FieldType} {wds : List Cond} {rm : Room} {Qc : Array Value → State → Outcome → State → Prop} {Ts : List Cond} {own : String} {As : List Value} (S : CallFix p m c cc nL s args Ts own) (hM : Met l y wds rm (jx_pre D tys As wc H.size) Qc 0 0 (va_A wc H.size)) (cw : CallB R s args own index y bytes maxL ret wds rm 0 0 n ∧ (Cond.static y).before args s = true) (hK : va_K D vwCl tys s) (hN : jx_N s) (hP : va_P D vwCl ws H) (hD : va_D A ws) (isC : List Nat) (hC : isC.map (fun i => ws[i]?) = wc.map some) (hnd : va_nd isC = true)
    (hn : As.length = n) (hsize : ls.size = nL) (hstack : st0 = As.reverse ++ rest) (hW : (rest.map fun v => v.category).sum ≤ 8) (hdg : decode cc pc = .ok (.invokestatic index, 3)) (hf : cells + 0 ≤ R.cells ∧ slots + 0 ≤ R.slots) :
    va_Run p l e R s m args below meth c H locs cells slots 0 0 (F0 m pc ls st0) rest (Qc As.toArray) (va_A wc H.size) :=
  va_runS S hM cw ⟨jx_blind D tys _ wc H.size, jx_prep hK hN hP hD isC hC hnd _⟩ rfl hn hsize hstack (lv_room hW) hdg hf
theorem jx_runSN {y : MethodName} {bytes : ByteArray} {maxL nL n index : Nat} {ret : Option FieldType} {wds : List Cond} {rm : Room} {Qc : Array Value → State → Outcome → State → Prop} {Ts : List Cond} {own host : String} {As : List Value} (S : CallFix p m c cc nL s args Ts own) (hM : Met l y wds rm (jx_pre D tys As wc H.size) Qc 0 0 (va_A wc H.size)) (cw : va_CN R s args own index y host bytes maxL ret wds rm 0 0 n) (hst : (Cond.static y).before args s = true) (hK : va_K D vwCl tys s) (hN : jx_N s) (hP : va_P D vwCl ws H) (hD : va_D A ws) (isC : List Nat) (hC : isC.map (fun i => ws[i]?) = wc.map some) (hnd : va_nd isC = true)
    (hn : As.length = n) (hsize : ls.size = nL) (hstack : st0 = As.reverse ++ rest) (hW : (rest.map fun v => v.category).sum ≤ 8) (hdg : decode cc pc = .ok (.invokestatic index, 3)) (hf : cells + 0 ≤ R.cells ∧ slots + 0 ≤ R.slots) :
    va_Run p l e R s m args below meth c H locs cells slots 0 0 (F0 m pc ls st0) rest (Qc As.toArray) (va_A wc H.size) :=
  va_runSN S hM ⟨cw, hst, trivial⟩ ⟨jx_blind D tys _ wc H.size, jx_prep hK hN hP hD isC hC hnd _⟩ rfl hn hsize hstack (lv_room hW) hdg hf
theorem jx_ki {r : Int32} {av : Array Value} (hr : va_Run p l e R s m args below meth c H locs cells slots 0 0 (F0 m pc ls st0) rest (va_Qi (jx_qi r) (jx_B D tys wc' (va_A wc H.size)) (va_A wc H.size) av) (va_A wc H.size)) (hP : va_P D vwCl ws H) (hD : va_D A ws) (hS : va_S A H0 H locs) (hA : ∀ q, H0.size ≤ q → A q) (isC isR isO : List Nat) (hC : isC.map (fun i => ws[i]?) = wc.map some) (hR : isR.map (fun i => ws[i]?) = wr.map some) (hn : va_nd isR = true) (hdis : ∀ i ∈ isR, i ∉ isC) (hO : isO.map (fun i => (wr ++ wc')[i]?) = ws2.map some) (hOn : va_nd isO = true)
    (kk : ∀ (H1 : Heap) (locs1 : List Loc), va_P D vwCl ws2 H1 → va_D A ws2 → va_S A H0 H1 locs1 → W p l e R s m args below meth c H1 locs1 cells slots Q (F0 m (pc + 3) ls (.int r :: rest))) : W p l e R s m args below meth c H locs cells slots Q (F0 m pc ls st0) := by
  have hFc := va_free (wc := wc) hD hS hA isC hC
  refine va_calli hr hS (fun q _ h => hFc q h) hFc (fun r' u t H1 locs1 ht hvm hw hB hz1 hk1 hS1 => ?_)
  obtain ⟨hP1, hK1, hD1⟩ := hB
  rw [ht] at hP1
  obtain ⟨hP2, hD2⟩ := va_join (wr := wr) (w1 := wc') hP hD isC isR hC hR hn hdis hk1 hFc hP1 hD1
  have hw : r' = r := hw
  subst hw
  exact kk H1 locs1 (hP2.sub isO (jx_fm hO)) (hD2.sub isO hOn hO) hS1
theorem jx_kl {r : Int64} {av : Array Value} (hr : va_Run p l e R s m args below meth c H locs cells slots 0 0 (F0 m pc ls st0) rest (va_Ql (jx_ql r) (jx_B D tys wc' (va_A wc H.size)) (va_A wc H.size) av) (va_A wc H.size)) (hP : va_P D vwCl ws H) (hD : va_D A ws) (hS : va_S A H0 H locs) (hA : ∀ q, H0.size ≤ q → A q) (isC isR isO : List Nat) (hC : isC.map (fun i => ws[i]?) = wc.map some) (hR : isR.map (fun i => ws[i]?) = wr.map some) (hn : va_nd isR = true) (hdis : ∀ i ∈ isR, i ∉ isC) (hO : isO.map (fun i => (wr ++ wc')[i]?) = ws2.map some) (hOn : va_nd isO = true)
    (kk : ∀ (H1 : Heap) (locs1 : List Loc), va_P D vwCl ws2 H1 → va_D A ws2 → va_S A H0 H1 locs1 → W p l e R s m args below meth c H1 locs1 cells slots Q (F0 m (pc + 3) ls (.long r :: rest))) : W p l e R s m args below meth c H locs cells slots Q (F0 m pc ls st0) := by
  have hFc := va_free (wc := wc) hD hS hA isC hC
  refine va_calll hr hS (fun q _ h => hFc q h) hFc (fun r' u t H1 locs1 ht hvm hw hB hz1 hk1 hS1 => ?_)
  obtain ⟨hP1, hK1, hD1⟩ := hB
  rw [ht] at hP1
  obtain ⟨hP2, hD2⟩ := va_join (wr := wr) (w1 := wc') hP hD isC isR hC hR hn hdis hk1 hFc hP1 hD1
  have hw : r' = r := hw
  subst hw
  exact kk H1 locs1 (hP2.sub isO (jx_fm hO)) (hD2.sub isO hOn hO) hS1
theorem jx_kv {av : Array Value} (hr : va_Run p l e R s m args below meth c H locs cells slots 0 0 (F0 m pc ls st0) rest (va_Qv jx_qv (jx_B D tys wc' (va_A wc H.size)) (va_A wc H.size) av) (va_A wc H.size)) (hP : va_P D vwCl ws H) (hD : va_D A ws) (hS : va_S A H0 H locs) (hA : ∀ q, H0.size ≤ q → A q) (isC isR isO : List Nat) (hC : isC.map (fun i => ws[i]?) = wc.map some) (hR : isR.map (fun i => ws[i]?) = wr.map some) (hn : va_nd isR = true) (hdis : ∀ i ∈ isR, i ∉ isC) (hO : isO.map (fun i => (wr ++ wc')[i]?) = ws2.map some) (hOn : va_nd isO = true)
    (kk : ∀ (H1 : Heap) (locs1 : List Loc), va_P D vwCl ws2 H1 → va_D A ws2 → va_S A H0 H1 locs1 → W p l e R s m args below meth c H1 locs1 cells slots Q (F0 m (pc + 3) ls rest)) : W p l e R s m args below meth c H locs cells slots Q (F0 m pc ls st0) := by
  have hFc := va_free (wc := wc) hD hS hA isC hC
  refine va_callv hr hS (fun q _ h => hFc q h) hFc (fun u t H1 locs1 ht hvm hw hB hz1 hk1 hS1 => ?_)
  obtain ⟨hP1, hK1, hD1⟩ := hB
  rw [ht] at hP1
  obtain ⟨hP2, hD2⟩ := va_join (wr := wr) (w1 := wc') hP hD isC isR hC hR hn hdis hk1 hFc hP1 hD1
  exact kk H1 locs1 (hP2.sub isO (jx_fm hO)) (hD2.sub isO hOn hO) hS1
theorem jx_reti {v r0 : Int32} (hx : p.tables.exec = Jvm.exec) (hb : c.code = cc) (hr : meth.sig.returnType = some .int) (hlocks : meth.locks = false) (hv : v = r0) (hK : va_K D vwCl tys s) (hP : va_P D vwCl ws H) (hD : va_D A ws) (hS : va_S A s.heap H locs) (hdg : decode cc pc = .ok (.ireturn, 1)) : W p l e R s m args below meth c H locs cells slots (MQ below (va_Qi (jx_qi r0) (jx_B D tys ws A) A) args s cells slots A) (F0 m pc ls [.int v]) :=
  W.iret (v := v) hx hb hr (fun t ht hW => ⟨⟨v, (), rfl, hv, by rw [ht]; exact hP, va_K.moved hW.alike hK, hD⟩, hS.F ht⟩) hS.2.2 hdg
theorem jx_retz {v r0 : Int32} (hx : p.tables.exec = Jvm.exec) (hb : c.code = cc) (hr : meth.sig.returnType = some .boolean) (hlocks : meth.locks = false) (hz : narrow .boolean (.int v) = .int v) (hv : v = r0) (hK : va_K D vwCl tys s) (hP : va_P D vwCl ws H) (hD : va_D A ws) (hS : va_S A s.heap H locs) (hdg : decode cc pc = .ok (.ireturn, 1)) : W p l e R s m args below meth c H locs cells slots (MQ below (va_Qi (jx_qi r0) (jx_B D tys ws A) A) args s cells slots A) (F0 m pc ls [.int v]) :=
  W.zret (v := v) hx hb hr hz (fun t ht hW => ⟨⟨v, (), rfl, hv, by rw [ht]; exact hP, va_K.moved hW.alike hK, hD⟩, hS.F ht⟩) hS.2.2 hdg
theorem jx_retl {v r0 : Int64} (hx : p.tables.exec = Jvm.exec) (hb : c.code = cc) (hr : meth.sig.returnType = some .long) (hlocks : meth.locks = false) (hv : v = r0) (hK : va_K D vwCl tys s) (hP : va_P D vwCl ws H) (hD : va_D A ws) (hS : va_S A s.heap H locs) (hdg : decode cc pc = .ok (.lreturn, 1)) : W p l e R s m args below meth c H locs cells slots (MQ below (va_Ql (jx_ql r0) (jx_B D tys ws A) A) args s cells slots A) (F0 m pc ls [.long v]) :=
  W.lret (v := v) hx hb hr (fun t ht hW => ⟨⟨v, (), rfl, hv, by rw [ht]; exact hP, va_K.moved hW.alike hK, hD⟩, hS.F ht⟩) hS.2.2 hdg
theorem jx_retv (hx : p.tables.exec = Jvm.exec) (hb : c.code = cc) (hr : meth.sig.returnType = none) (hlocks : meth.locks = false) (hK : va_K D vwCl tys s) (hP : va_P D vwCl ws H) (hD : va_D A ws) (hS : va_S A s.heap H locs) (hdg : decode cc pc = .ok (.return_, 1)) : W p l e R s m args below meth c H locs cells slots (MQ below (va_Qv jx_qv (jx_B D tys ws A) A) args s cells slots A) (F0 m pc ls []) :=
  W.vret hx hb hr (fun t ht hW => ⟨⟨(), rfl, trivial, by rw [ht]; exact hP, va_K.moved hW.alike hK, hD⟩, hS.F ht⟩) hS.2.2 hdg
end JXC
theorem jx_nb {v : Int32} (h : decide (v = 0 ∨ v = 1) = true) : narrow .boolean (.int v) = .int v := by
  rcases of_decide_eq_true h with h | h <;> subst h <;> rfl
def jx_F : Nat := 4096
abbrev jx_Wi (p : Program) (l : Launch) (e : Env) (wds : List Cond) (rm : Room) (s : State) (m : MethodId) (av : List Value) (below : List Frame) (meth : Method) (c : Code) (D : va_G) (tys : List (ClassId × FieldType)) (r : Int32) (ws' : va_W) (A : Nat → Prop) (H : Heap) (locs : List Loc) (g : JFrame) : Prop := W p l e (headSpec wds rm).room s m av.toArray below meth c H locs 0 0 (MQ below (va_Qi (jx_qi r) (jx_B D tys ws' A) A) av.toArray s 0 0 A) g
abbrev jx_Wl (p : Program) (l : Launch) (e : Env) (wds : List Cond) (rm : Room) (s : State) (m : MethodId) (av : List Value) (below : List Frame) (meth : Method) (c : Code) (D : va_G) (tys : List (ClassId × FieldType)) (r : Int64) (ws' : va_W) (A : Nat → Prop) (H : Heap) (locs : List Loc) (g : JFrame) : Prop := W p l e (headSpec wds rm).room s m av.toArray below meth c H locs 0 0 (MQ below (va_Ql (jx_ql r) (jx_B D tys ws' A) A) av.toArray s 0 0 A) g
abbrev jx_Wv (p : Program) (l : Launch) (e : Env) (wds : List Cond) (rm : Room) (s : State) (m : MethodId) (av : List Value) (below : List Frame) (meth : Method) (c : Code) (D : va_G) (tys : List (ClassId × FieldType)) (ws' : va_W) (A : Nat → Prop) (H : Heap) (locs : List Loc) (g : JFrame) : Prop := W p l e (headSpec wds rm).room s m av.toArray below meth c H locs 0 0 (MQ below (va_Qv jx_qv (jx_B D tys ws' A) A) av.toArray s 0 0 A) g
