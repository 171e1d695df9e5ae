section
-- ===== PART A: goes FIRST, ahead of the names: the tables' words, and 'selects' of the private methods out of them =====
/-- a private method of a class that the tables say can be made, by its rows of tables_1 -/
def lw_okq (q : MethodName × Nat) : Prop := (q.1.cls ≠ "java/lang/invoke/MethodHandle" ∧ q.1.cls ≠ "java/lang/invoke/VarHandle") ∧ Cond.instantiable q.1.cls q.2 ∈ tables_1 ∧ Cond.privateMethod q.1 ∈ tables_1 ∧ Cond.instanceMethod q.1 ∈ tables_1
theorem lw_p0 : lw_okq (⟨"PassedDuties$Parts", "settle", "()V"⟩, 8) := ⟨⟨by decide +kernel, by decide +kernel⟩, List.mem_of_getElem? (i := 53) (by decide +kernel), List.mem_of_getElem? (i := 236) (by decide +kernel), List.mem_of_getElem? (i := 237) (by decide +kernel)⟩
theorem lw_p1 : lw_okq (⟨"PassedDuties$Parts", "getsMore", "(I[J)Z"⟩, 8) := ⟨⟨by decide +kernel, by decide +kernel⟩, List.mem_of_getElem? (i := 53) (by decide +kernel), List.mem_of_getElem? (i := 244) (by decide +kernel), List.mem_of_getElem? (i := 245) (by decide +kernel)⟩
theorem lw_p2 : lw_okq (⟨"PassedDuties$Parts", "setJoin", "(III)V"⟩, 8) := ⟨⟨by decide +kernel, by decide +kernel⟩, List.mem_of_getElem? (i := 53) (by decide +kernel), List.mem_of_getElem? (i := 273) (by decide +kernel), List.mem_of_getElem? (i := 274) (by decide +kernel)⟩
theorem lw_p3 : lw_okq (⟨"PassedDuties$Parts", "namedBy", "(I)I"⟩, 8) := ⟨⟨by decide +kernel, by decide +kernel⟩, List.mem_of_getElem? (i := 53) (by decide +kernel), List.mem_of_getElem? (i := 314) (by decide +kernel), List.mem_of_getElem? (i := 315) (by decide +kernel)⟩
theorem lw_p4 : lw_okq (⟨"PassedDuties$Ways", "measure", "(II)V"⟩, 2) := ⟨⟨by decide +kernel, by decide +kernel⟩, List.mem_of_getElem? (i := 95) (by decide +kernel), List.mem_of_getElem? (i := 338) (by decide +kernel), List.mem_of_getElem? (i := 339) (by decide +kernel)⟩
theorem lw_p5 : lw_okq (⟨"PassedDuties$Ways", "nearer", "(III)I"⟩, 2) := ⟨⟨by decide +kernel, by decide +kernel⟩, List.mem_of_getElem? (i := 95) (by decide +kernel), List.mem_of_getElem? (i := 344) (by decide +kernel), List.mem_of_getElem? (i := 345) (by decide +kernel)⟩
theorem lw_p6 : lw_okq (⟨"PassedDuties$Clashes", "keepAll", "()V"⟩, 4) := ⟨⟨by decide +kernel, by decide +kernel⟩, List.mem_of_getElem? (i := 108) (by decide +kernel), List.mem_of_getElem? (i := 377) (by decide +kernel), List.mem_of_getElem? (i := 378) (by decide +kernel)⟩
theorem lw_p7 : lw_okq (⟨"PassedDuties$Clashes", "isFewer", "(II)Z"⟩, 4) := ⟨⟨by decide +kernel, by decide +kernel⟩, List.mem_of_getElem? (i := 108) (by decide +kernel), List.mem_of_getElem? (i := 382) (by decide +kernel), List.mem_of_getElem? (i := 383) (by decide +kernel)⟩
theorem lw_p8 : lw_okq (⟨"PassedDuties", "withTerms", "(J)J"⟩, 5) := ⟨⟨by decide +kernel, by decide +kernel⟩, List.mem_of_getElem? (i := 13) (by decide +kernel), List.mem_of_getElem? (i := 425) (by decide +kernel), List.mem_of_getElem? (i := 426) (by decide +kernel)⟩
theorem lw_p9 : lw_okq (⟨"PassedDuties", "withPart", "(JI)J"⟩, 5) := ⟨⟨by decide +kernel, by decide +kernel⟩, List.mem_of_getElem? (i := 13) (by decide +kernel), List.mem_of_getElem? (i := 434) (by decide +kernel), List.mem_of_getElem? (i := 435) (by decide +kernel)⟩
theorem lw_p10 : lw_okq (⟨"PassedDuties", "withClashes", "(J)J"⟩, 5) := ⟨⟨by decide +kernel, by decide +kernel⟩, List.mem_of_getElem? (i := 13) (by decide +kernel), List.mem_of_getElem? (i := 441) (by decide +kernel), List.mem_of_getElem? (i := 442) (by decide +kernel)⟩
theorem lw_p11 : lw_okq (⟨"PassedDutiesModel", "readPage", "()I"⟩, 14) := ⟨⟨by decide +kernel, by decide +kernel⟩, List.mem_of_getElem? (i := 448) (by decide +kernel), List.mem_of_getElem? (i := 512) (by decide +kernel), List.mem_of_getElem? (i := 513) (by decide +kernel)⟩
theorem lw_p12 : lw_okq (⟨"PassedDutiesModel", "likeRead", "(I)I"⟩, 14) := ⟨⟨by decide +kernel, by decide +kernel⟩, List.mem_of_getElem? (i := 448) (by decide +kernel), List.mem_of_getElem? (i := 523) (by decide +kernel), List.mem_of_getElem? (i := 524) (by decide +kernel)⟩
theorem lw_p13 : lw_okq (⟨"PassedDutiesModel", "isTerms", "(I)Z"⟩, 14) := ⟨⟨by decide +kernel, by decide +kernel⟩, List.mem_of_getElem? (i := 448) (by decide +kernel), List.mem_of_getElem? (i := 531) (by decide +kernel), List.mem_of_getElem? (i := 532) (by decide +kernel)⟩
theorem lw_p14 : lw_okq (⟨"PassedDutiesModel", "isLooser", "(II)Z"⟩, 14) := ⟨⟨by decide +kernel, by decide +kernel⟩, List.mem_of_getElem? (i := 448) (by decide +kernel), List.mem_of_getElem? (i := 539) (by decide +kernel), List.mem_of_getElem? (i := 540) (by decide +kernel)⟩
theorem lw_p15 : lw_okq (⟨"PassedDutiesModel", "puts", "(IIZ)I"⟩, 14) := ⟨⟨by decide +kernel, by decide +kernel⟩, List.mem_of_getElem? (i := 448) (by decide +kernel), List.mem_of_getElem? (i := 543) (by decide +kernel), List.mem_of_getElem? (i := 544) (by decide +kernel)⟩
def lw_privs_1 : List (MethodName × Nat) := [(⟨"PassedDuties$Parts", "settle", "()V"⟩, 8), (⟨"PassedDuties$Parts", "getsMore", "(I[J)Z"⟩, 8), (⟨"PassedDuties$Parts", "setJoin", "(III)V"⟩, 8), (⟨"PassedDuties$Parts", "namedBy", "(I)I"⟩, 8), (⟨"PassedDuties$Ways", "measure", "(II)V"⟩, 2), (⟨"PassedDuties$Ways", "nearer", "(III)I"⟩, 2), (⟨"PassedDuties$Clashes", "keepAll", "()V"⟩, 4), (⟨"PassedDuties$Clashes", "isFewer", "(II)Z"⟩, 4), (⟨"PassedDuties", "withTerms", "(J)J"⟩, 5), (⟨"PassedDuties", "withPart", "(JI)J"⟩, 5), (⟨"PassedDuties", "withClashes", "(J)J"⟩, 5), (⟨"PassedDutiesModel", "readPage", "()I"⟩, 14), (⟨"PassedDutiesModel", "likeRead", "(I)I"⟩, 14), (⟨"PassedDutiesModel", "isTerms", "(I)Z"⟩, 14), (⟨"PassedDutiesModel", "isLooser", "(II)Z"⟩, 14), (⟨"PassedDutiesModel", "puts", "(IIZ)I"⟩, 14)]
theorem lw_r1 : ∀ q ∈ lw_privs_1, lw_okq q := List.forall_mem_cons.mpr ⟨lw_p0, List.forall_mem_cons.mpr ⟨lw_p1, List.forall_mem_cons.mpr ⟨lw_p2, List.forall_mem_cons.mpr ⟨lw_p3, List.forall_mem_cons.mpr ⟨lw_p4, List.forall_mem_cons.mpr ⟨lw_p5, List.forall_mem_cons.mpr ⟨lw_p6, List.forall_mem_cons.mpr ⟨lw_p7, List.forall_mem_cons.mpr ⟨lw_p8, List.forall_mem_cons.mpr ⟨lw_p9, List.forall_mem_cons.mpr ⟨lw_p10, List.forall_mem_cons.mpr ⟨lw_p11, List.forall_mem_cons.mpr ⟨lw_p12, List.forall_mem_cons.mpr ⟨lw_p13, List.forall_mem_cons.mpr ⟨lw_p14, List.forall_mem_cons.mpr ⟨lw_p15, fun _ h => absurd h List.not_mem_nil⟩⟩⟩⟩⟩⟩⟩⟩⟩⟩⟩⟩⟩⟩⟩⟩
theorem lw_p16 : lw_okq (⟨"PassedDutiesModel", "isPart", "(I)Z"⟩, 14) := ⟨⟨by decide +kernel, by decide +kernel⟩, List.mem_of_getElem? (i := 448) (by decide +kernel), List.mem_of_getElem? (i := 558) (by decide +kernel), List.mem_of_getElem? (i := 559) (by decide +kernel)⟩
theorem lw_p17 : lw_okq (⟨"PassedDutiesModel", "usesOf", "(I)I"⟩, 14) := ⟨⟨by decide +kernel, by decide +kernel⟩, List.mem_of_getElem? (i := 448) (by decide +kernel), List.mem_of_getElem? (i := 566) (by decide +kernel), List.mem_of_getElem? (i := 567) (by decide +kernel)⟩
theorem lw_p18 : lw_okq (⟨"PassedDutiesModel", "usersOf", "(I)I"⟩, 14) := ⟨⟨by decide +kernel, by decide +kernel⟩, List.mem_of_getElem? (i := 448) (by decide +kernel), List.mem_of_getElem? (i := 570) (by decide +kernel), List.mem_of_getElem? (i := 571) (by decide +kernel)⟩
theorem lw_p19 : lw_okq (⟨"PassedDutiesModel", "heldNow", "(II)I"⟩, 14) := ⟨⟨by decide +kernel, by decide +kernel⟩, List.mem_of_getElem? (i := 448) (by decide +kernel), List.mem_of_getElem? (i := 586) (by decide +kernel), List.mem_of_getElem? (i := 587) (by decide +kernel)⟩
theorem lw_p20 : lw_okq (⟨"PassedDutiesModel", "withReach", "(III)I"⟩, 14) := ⟨⟨by decide +kernel, by decide +kernel⟩, List.mem_of_getElem? (i := 448) (by decide +kernel), List.mem_of_getElem? (i := 590) (by decide +kernel), List.mem_of_getElem? (i := 591) (by decide +kernel)⟩
theorem lw_p21 : lw_okq (⟨"PassedDutiesModel", "ownReach", "(II)I"⟩, 14) := ⟨⟨by decide +kernel, by decide +kernel⟩, List.mem_of_getElem? (i := 448) (by decide +kernel), List.mem_of_getElem? (i := 594) (by decide +kernel), List.mem_of_getElem? (i := 595) (by decide +kernel)⟩
theorem lw_p22 : lw_okq (⟨"PassedDutiesModel", "layWay", "(II)V"⟩, 14) := ⟨⟨by decide +kernel, by decide +kernel⟩, List.mem_of_getElem? (i := 448) (by decide +kernel), List.mem_of_getElem? (i := 602) (by decide +kernel), List.mem_of_getElem? (i := 603) (by decide +kernel)⟩
theorem lw_p23 : lw_okq (⟨"PassedDutiesModel", "layFar", "(II)V"⟩, 14) := ⟨⟨by decide +kernel, by decide +kernel⟩, List.mem_of_getElem? (i := 448) (by decide +kernel), List.mem_of_getElem? (i := 606) (by decide +kernel), List.mem_of_getElem? (i := 607) (by decide +kernel)⟩
theorem lw_p24 : lw_okq (⟨"PassedDutiesModel", "isLet", "(III)Z"⟩, 14) := ⟨⟨by decide +kernel, by decide +kernel⟩, List.mem_of_getElem? (i := 448) (by decide +kernel), List.mem_of_getElem? (i := 610) (by decide +kernel), List.mem_of_getElem? (i := 611) (by decide +kernel)⟩
theorem lw_p25 : lw_okq (⟨"PassedDutiesModel", "partNow", "(II)I"⟩, 14) := ⟨⟨by decide +kernel, by decide +kernel⟩, List.mem_of_getElem? (i := 448) (by decide +kernel), List.mem_of_getElem? (i := 618) (by decide +kernel), List.mem_of_getElem? (i := 619) (by decide +kernel)⟩
theorem lw_p26 : lw_okq (⟨"PassedDutiesModel", "namesOf", "(I)I"⟩, 14) := ⟨⟨by decide +kernel, by decide +kernel⟩, List.mem_of_getElem? (i := 448) (by decide +kernel), List.mem_of_getElem? (i := 622) (by decide +kernel), List.mem_of_getElem? (i := 623) (by decide +kernel)⟩
theorem lw_p27 : lw_okq (⟨"PassedDutiesModel", "actsOf", "(II)I"⟩, 14) := ⟨⟨by decide +kernel, by decide +kernel⟩, List.mem_of_getElem? (i := 448) (by decide +kernel), List.mem_of_getElem? (i := 626) (by decide +kernel), List.mem_of_getElem? (i := 627) (by decide +kernel)⟩
theorem lw_p28 : lw_okq (⟨"PassedDutiesModel", "heldBy", "(II)I"⟩, 14) := ⟨⟨by decide +kernel, by decide +kernel⟩, List.mem_of_getElem? (i := 448) (by decide +kernel), List.mem_of_getElem? (i := 630) (by decide +kernel), List.mem_of_getElem? (i := 631) (by decide +kernel)⟩
theorem lw_p29 : lw_okq (⟨"PassedDutiesModel", "layClashes", "()V"⟩, 14) := ⟨⟨by decide +kernel, by decide +kernel⟩, List.mem_of_getElem? (i := 448) (by decide +kernel), List.mem_of_getElem? (i := 638) (by decide +kernel), List.mem_of_getElem? (i := 639) (by decide +kernel)⟩
theorem lw_p30 : lw_okq (⟨"PassedDutiesModel", "clashing", "(II)I"⟩, 14) := ⟨⟨by decide +kernel, by decide +kernel⟩, List.mem_of_getElem? (i := 448) (by decide +kernel), List.mem_of_getElem? (i := 642) (by decide +kernel), List.mem_of_getElem? (i := 643) (by decide +kernel)⟩
theorem lw_p31 : lw_okq (⟨"PassedDutiesModel", "causeNow", "(II)I"⟩, 14) := ⟨⟨by decide +kernel, by decide +kernel⟩, List.mem_of_getElem? (i := 448) (by decide +kernel), List.mem_of_getElem? (i := 650) (by decide +kernel), List.mem_of_getElem? (i := 651) (by decide +kernel)⟩
def lw_privs_2 : List (MethodName × Nat) := [(⟨"PassedDutiesModel", "isPart", "(I)Z"⟩, 14), (⟨"PassedDutiesModel", "usesOf", "(I)I"⟩, 14), (⟨"PassedDutiesModel", "usersOf", "(I)I"⟩, 14), (⟨"PassedDutiesModel", "heldNow", "(II)I"⟩, 14), (⟨"PassedDutiesModel", "withReach", "(III)I"⟩, 14), (⟨"PassedDutiesModel", "ownReach", "(II)I"⟩, 14), (⟨"PassedDutiesModel", "layWay", "(II)V"⟩, 14), (⟨"PassedDutiesModel", "layFar", "(II)V"⟩, 14), (⟨"PassedDutiesModel", "isLet", "(III)Z"⟩, 14), (⟨"PassedDutiesModel", "partNow", "(II)I"⟩, 14), (⟨"PassedDutiesModel", "namesOf", "(I)I"⟩, 14), (⟨"PassedDutiesModel", "actsOf", "(II)I"⟩, 14), (⟨"PassedDutiesModel", "heldBy", "(II)I"⟩, 14), (⟨"PassedDutiesModel", "layClashes", "()V"⟩, 14), (⟨"PassedDutiesModel", "clashing", "(II)I"⟩, 14), (⟨"PassedDutiesModel", "causeNow", "(II)I"⟩, 14)]
theorem lw_r2 : ∀ q ∈ lw_privs_2, lw_okq q := List.forall_mem_cons.mpr ⟨lw_p16, List.forall_mem_cons.mpr ⟨lw_p17, List.forall_mem_cons.mpr ⟨lw_p18, List.forall_mem_cons.mpr ⟨lw_p19, List.forall_mem_cons.mpr ⟨lw_p20, List.forall_mem_cons.mpr ⟨lw_p21, List.forall_mem_cons.mpr ⟨lw_p22, List.forall_mem_cons.mpr ⟨lw_p23, List.forall_mem_cons.mpr ⟨lw_p24, List.forall_mem_cons.mpr ⟨lw_p25, List.forall_mem_cons.mpr ⟨lw_p26, List.forall_mem_cons.mpr ⟨lw_p27, List.forall_mem_cons.mpr ⟨lw_p28, List.forall_mem_cons.mpr ⟨lw_p29, List.forall_mem_cons.mpr ⟨lw_p30, List.forall_mem_cons.mpr ⟨lw_p31, fun _ h => absurd h List.not_mem_nil⟩⟩⟩⟩⟩⟩⟩⟩⟩⟩⟩⟩⟩⟩⟩⟩
theorem lw_p32 : lw_okq (⟨"PassedDutiesModel", "cureNow", "()I"⟩, 14) := ⟨⟨by decide +kernel, by decide +kernel⟩, List.mem_of_getElem? (i := 448) (by decide +kernel), List.mem_of_getElem? (i := 661) (by decide +kernel), List.mem_of_getElem? (i := 662) (by decide +kernel)⟩
theorem lw_p33 : lw_okq (⟨"PassedDutiesModel", "isClean", "(I)Z"⟩, 14) := ⟨⟨by decide +kernel, by decide +kernel⟩, List.mem_of_getElem? (i := 448) (by decide +kernel), List.mem_of_getElem? (i := 665) (by decide +kernel), List.mem_of_getElem? (i := 666) (by decide +kernel)⟩
theorem lw_p34 : lw_okq (⟨"PassedDutiesModel", "howMany", "(I)I"⟩, 14) := ⟨⟨by decide +kernel, by decide +kernel⟩, List.mem_of_getElem? (i := 448) (by decide +kernel), List.mem_of_getElem? (i := 673) (by decide +kernel), List.mem_of_getElem? (i := 674) (by decide +kernel)⟩
theorem lw_p35 : lw_okq (⟨"PassedDutiesModel", "joins", "()I"⟩, 14) := ⟨⟨by decide +kernel, by decide +kernel⟩, List.mem_of_getElem? (i := 448) (by decide +kernel), List.mem_of_getElem? (i := 677) (by decide +kernel), List.mem_of_getElem? (i := 678) (by decide +kernel)⟩
theorem lw_p36 : lw_okq (⟨"PassedDutiesModel", "clashMany", "(Z)I"⟩, 14) := ⟨⟨by decide +kernel, by decide +kernel⟩, List.mem_of_getElem? (i := 448) (by decide +kernel), List.mem_of_getElem? (i := 681) (by decide +kernel), List.mem_of_getElem? (i := 682) (by decide +kernel)⟩
theorem lw_p37 : lw_okq (⟨"PassedDutiesModel", "mix", "(J)V"⟩, 14) := ⟨⟨by decide +kernel, by decide +kernel⟩, List.mem_of_getElem? (i := 448) (by decide +kernel), List.mem_of_getElem? (i := 690) (by decide +kernel), List.mem_of_getElem? (i := 691) (by decide +kernel)⟩
theorem lw_p38 : lw_okq (⟨"PassedDutiesModel", "mixPart", "(I)V"⟩, 14) := ⟨⟨by decide +kernel, by decide +kernel⟩, List.mem_of_getElem? (i := 448) (by decide +kernel), List.mem_of_getElem? (i := 695) (by decide +kernel), List.mem_of_getElem? (i := 696) (by decide +kernel)⟩
def lw_privs_3 : List (MethodName × Nat) := [(⟨"PassedDutiesModel", "cureNow", "()I"⟩, 14), (⟨"PassedDutiesModel", "isClean", "(I)Z"⟩, 14), (⟨"PassedDutiesModel", "howMany", "(I)I"⟩, 14), (⟨"PassedDutiesModel", "joins", "()I"⟩, 14), (⟨"PassedDutiesModel", "clashMany", "(Z)I"⟩, 14), (⟨"PassedDutiesModel", "mix", "(J)V"⟩, 14), (⟨"PassedDutiesModel", "mixPart", "(I)V"⟩, 14)]
theorem lw_r3 : ∀ q ∈ lw_privs_3, lw_okq q := List.forall_mem_cons.mpr ⟨lw_p32, List.forall_mem_cons.mpr ⟨lw_p33, List.forall_mem_cons.mpr ⟨lw_p34, List.forall_mem_cons.mpr ⟨lw_p35, List.forall_mem_cons.mpr ⟨lw_p36, List.forall_mem_cons.mpr ⟨lw_p37, List.forall_mem_cons.mpr ⟨lw_p38, fun _ h => absurd h List.not_mem_nil⟩⟩⟩⟩⟩⟩⟩
def lw_privs : List (MethodName × Nat) := lw_privs_1 ++ (lw_privs_2 ++ (lw_privs_3))
def lw_tbl : List Cond := k2_sels lw_privs ++ tables_1
theorem lw_privs_ok : ∀ q ∈ lw_privs, lw_okq q := by
  show ∀ q ∈ lw_privs_1 ++ (lw_privs_2 ++ (lw_privs_3)), lw_okq q
  exact List.forall_mem_append.mpr ⟨lw_r1, List.forall_mem_append.mpr ⟨lw_r2, lw_r3⟩⟩
end
section
/-! ===== BEGIN words of one list among another's, by their places ===== -/
theorem goodIn_r {big : List Cond} (ws : List Cond) (ps : List Nat) (hp : ws = ps.filterMap (fun i => big[i]?)) (h : ws.all goodWord = true) : GoodIn big ws := by
  intro w hw
  have h1 := List.all_eq_true.mp h w hw
  rw [hp] at hw
  obtain ⟨i, -, hi⟩ := List.mem_filterMap.mp hw
  have hm : w ∈ big := by first | exact List.mem_of_getElem? hi | exact List.getElem?_mem hi
  exact ⟨hm, good_of_word h1⟩
theorem goodIn_app {big a b : List Cond} (ha : GoodIn big a) (hb : GoodIn big b) : GoodIn big (a ++ b) := fun w h => (List.mem_append.mp h).elim (ha w) (hb w)
theorem goodIn_ca {big a b : List Cond} {c : Cond} (ha : GoodIn big (c :: a)) (hb : GoodIn big b) : GoodIn big (c :: (a ++ b)) := fun w h => (List.mem_cons.mp h).elim (fun e => ha w (List.mem_cons.mpr (Or.inl e))) (fun h => (List.mem_append.mp h).elim (fun h => ha w (List.mem_cons.mpr (Or.inr h))) (hb w))
theorem goodIn_sub {big ws : List Cond} (hm : ∀ w ∈ ws, w ∈ big) (h : ws.all goodWord = true) : GoodIn big ws := fun w hw => ⟨hm w hw, good_of_word (List.all_eq_true.mp h w hw)⟩
/-! ===== END ===== -/

/-! ===== BEGIN printed: names, fields, word lists, decode rows ===== -/
def RX0 : String := "PassedDuties$Book"
def TX0 : u_T := fun k => match k with
  | 0 => ("PassedDuties$Book", "rows", "[J", true)
  | _ => ("PassedDuties$Book", "size", "I", false)
def tyX0 : Nat → FieldType := fun k => match k with
  | 0 => .array .long
  | _ => .int
abbrev wsX00 : List Cond := u_ws RX0 TX0 2
theorem nmX0 : ∀ a, a < 2 → ∀ b, b < 2 → a ≠ b → (TX0 a).2.1 ≠ (TX0 b).2.1 := by decide +kernel
theorem tyX0_ok : ∀ k, k < 2 → parseFieldDescriptor (TX0 k).2.2.1 = some (tyX0 k) := by decide +kernel
abbrev cX0_init : ByteArray := prog_2_method_1_code
def yX0_init : MethodName := ⟨RX0, "<init>", "()V"⟩
abbrev cX0_has : ByteArray := prog_2_method_2_code
def yX0_has : MethodName := ⟨RX0, "has", "(I)Z"⟩
abbrev cX0_find : ByteArray := prog_2_method_3_code
def yX0_find : MethodName := ⟨RX0, "find", "(J)I"⟩
abbrev cX0_numberFor : ByteArray := prog_2_method_4_code
def yX0_numberFor : MethodName := ⟨RX0, "numberFor", "(J)I"⟩
def RX1 : String := "PassedDuties$Clashes"
def TX1 : u_T := fun k => match k with
  | 0 => ("PassedDuties$Clashes", "parts", "LPassedDuties$Parts;", true)
  | 1 => ("PassedDuties$Clashes", "bySet", "[J", true)
  | 2 => ("PassedDuties$Clashes", "rows", "[J", true)
  | _ => ("PassedDuties$Clashes", "keptFor", "I", false)
def tyX1 : Nat → FieldType := fun k => match k with
  | 0 => .object "PassedDuties$Parts"
  | 1 => .array .long
  | 2 => .array .long
  | _ => .int
abbrev wsX10 : List Cond := u_ws RX1 TX1 4
theorem nmX1 : ∀ a, a < 4 → ∀ b, b < 4 → a ≠ b → (TX1 a).2.1 ≠ (TX1 b).2.1 := by decide +kernel
theorem tyX1_ok : ∀ k, k < 4 → parseFieldDescriptor (TX1 k).2.2.1 = some (tyX1 k) := by decide +kernel
abbrev cX1_init : ByteArray := prog_3_method_1_code
def yX1_init : MethodName := ⟨RX1, "<init>", "(LPassedDuties$Parts;)V"⟩
abbrev cX1_now : ByteArray := prog_3_method_2_code
def yX1_now : MethodName := ⟨RX1, "now", "()J"⟩
abbrev cX1_partsNow : ByteArray := prog_3_method_3_code
def yX1_partsNow : MethodName := ⟨RX1, "partsNow", "()I"⟩
abbrev cX1_at : ByteArray := prog_3_method_4_code
def yX1_at : MethodName := ⟨RX1, "at", "(I)I"⟩
abbrev cX1_fewestFor : ByteArray := prog_3_method_5_code
def yX1_fewestFor : MethodName := ⟨RX1, "fewestFor", "(I)I"⟩
abbrev cX1_fewestToLeave : ByteArray := prog_3_method_6_code
def yX1_fewestToLeave : MethodName := ⟨RX1, "fewestToLeave", "()I"⟩
abbrev cX1_isFewer : ByteArray := prog_3_method_7_code
def yX1_isFewer : MethodName := ⟨RX1, "isFewer", "(II)Z"⟩
abbrev cX1_keepAll : ByteArray := prog_3_method_8_code
def yX1_keepAll : MethodName := ⟨RX1, "keepAll", "()V"⟩
abbrev cX1_meetings : ByteArray := prog_3_method_9_code
def yX1_meetings : MethodName := ⟨RX1, "meetings", "([J)J"⟩
def RX2 : String := "PassedDuties$Page"
def TX2 : u_T := fun k => match k with
  | 0 => ("PassedDuties$Page", "codes", "[I", true)
  | _ => ("PassedDuties$Page", "length", "I", false)
def tyX2 : Nat → FieldType := fun k => match k with
  | 0 => .array .int
  | _ => .int
abbrev wsX20 : List Cond := u_ws RX2 TX2 2
theorem nmX2 : ∀ a, a < 2 → ∀ b, b < 2 → a ≠ b → (TX2 a).2.1 ≠ (TX2 b).2.1 := by decide +kernel
theorem tyX2_ok : ∀ k, k < 2 → parseFieldDescriptor (TX2 k).2.2.1 = some (tyX2 k) := by decide +kernel
abbrev cX2_init : ByteArray := prog_4_method_1_code
def yX2_init : MethodName := ⟨RX2, "<init>", "()V"⟩
abbrev cX2_write : ByteArray := prog_4_method_2_code
def yX2_write : MethodName := ⟨RX2, "write", "(I)I"⟩
abbrev cX2_wipe : ByteArray := prog_4_method_3_code
def yX2_wipe : MethodName := ⟨RX2, "wipe", "()I"⟩
abbrev cX2_firstFault : ByteArray := prog_4_method_4_code
def yX2_firstFault : MethodName := ⟨RX2, "firstFault", "()I"⟩
abbrev cX2_meaning : ByteArray := prog_4_method_5_code
def yX2_meaning : MethodName := ⟨RX2, "meaning", "()J"⟩
abbrev cX2_itemOf : ByteArray := prog_4_method_6_code
def yX2_itemOf : MethodName := ⟨RX2, "itemOf", "(I)I"⟩
abbrev cX2_reachOf : ByteArray := prog_4_method_7_code
def yX2_reachOf : MethodName := ⟨RX2, "reachOf", "(I)I"⟩
def RX3 : String := "PassedDuties$Parts"
def TX3 : u_T := fun k => match k with
  | 0 => ("PassedDuties$Parts", "under", "[I", true)
  | 1 => ("PassedDuties$Parts", "own", "[J", true)
  | 2 => ("PassedDuties$Parts", "kinds", "[I", true)
  | 3 => ("PassedDuties$Parts", "through", "[J", true)
  | 4 => ("PassedDuties$Parts", "come", "[J", true)
  | 5 => ("PassedDuties$Parts", "there", "I", false)
  | 6 => ("PassedDuties$Parts", "timesLeft", "I", false)
  | _ => ("PassedDuties$Parts", "changes", "I", false)
def tyX3 : Nat → FieldType := fun k => match k with
  | 0 => .array .int
  | 1 => .array .long
  | 2 => .array .int
  | 3 => .array .long
  | 4 => .array .long
  | 5 => .int
  | 6 => .int
  | _ => .int
abbrev wsX30 : List Cond := u_ws RX3 TX3 8
theorem nmX3 : ∀ a, a < 8 → ∀ b, b < 8 → a ≠ b → (TX3 a).2.1 ≠ (TX3 b).2.1 := by decide +kernel
theorem tyX3_ok : ∀ k, k < 8 → parseFieldDescriptor (TX3 k).2.2.1 = some (tyX3 k) := by decide +kernel
abbrev cX3_init : ByteArray := prog_5_method_1_code
def yX3_init : MethodName := ⟨RX3, "<init>", "()V"⟩
abbrev cX3_has : ByteArray := prog_5_method_2_code
def yX3_has : MethodName := ⟨RX3, "has", "(I)Z"⟩
abbrev cX3_leastFree : ByteArray := prog_5_method_3_code
def yX3_leastFree : MethodName := ⟨RX3, "leastFree", "()I"⟩
abbrev cX3_put : ByteArray := prog_5_method_4_code
def yX3_put : MethodName := ⟨RX3, "put", "(IIJ)V"⟩
abbrev cX3_remove : ByteArray := prog_5_method_5_code
def yX3_remove : MethodName := ⟨RX3, "remove", "(I)I"⟩
abbrev cX3_kindOf : ByteArray := prog_5_method_6_code
def yX3_kindOf : MethodName := ⟨RX3, "kindOf", "(II)I"⟩
abbrev cX3_setKind : ByteArray := prog_5_method_7_code
def yX3_setKind : MethodName := ⟨RX3, "setKind", "(III)V"⟩
abbrev cX3_lets : ByteArray := prog_5_method_8_code
def yX3_lets : MethodName := ⟨RX3, "lets", "(III)Z"⟩
abbrev cX3_reachHeld : ByteArray := prog_5_method_9_code
def yX3_reachHeld : MethodName := ⟨RX3, "reachHeld", "(II)I"⟩
abbrev cX3_joinsFrom : ByteArray := prog_5_method_10_code
def yX3_joinsFrom : MethodName := ⟨RX3, "joinsFrom", "(I)I"⟩
abbrev cX3_joinsTo : ByteArray := prog_5_method_11_code
def yX3_joinsTo : MethodName := ⟨RX3, "joinsTo", "(I)I"⟩
abbrev cX3_joins : ByteArray := prog_5_method_12_code
def yX3_joins : MethodName := ⟨RX3, "joins", "()I"⟩
abbrev cX3_namesOf : ByteArray := prog_5_method_13_code
def yX3_namesOf : MethodName := ⟨RX3, "namesOf", "(I)I"⟩
abbrev cX3_namedBy : ByteArray := prog_5_method_14_code
def yX3_namedBy : MethodName := ⟨RX3, "namedBy", "(I)I"⟩
abbrev cX3_spread : ByteArray := prog_5_method_15_code
def yX3_spread : MethodName := ⟨RX3, "spread", "(I[J)V"⟩
abbrev cX3_getsMore : ByteArray := prog_5_method_16_code
def yX3_getsMore : MethodName := ⟨RX3, "getsMore", "(I[J)Z"⟩
abbrev cX3_setJoin : ByteArray := prog_5_method_17_code
def yX3_setJoin : MethodName := ⟨RX3, "setJoin", "(III)V"⟩
abbrev cX3_settle : ByteArray := prog_5_method_18_code
def yX3_settle : MethodName := ⟨RX3, "settle", "()V"⟩
def RX4 : String := "PassedDuties$Reaches"
def TX4 : u_T := fun k => match k with
  | _ => ("", "", "", false)
def tyX4 : Nat → FieldType := fun k => match k with
  | _ => .int
abbrev wsX40 : List Cond := u_ws RX4 TX4 0
theorem nmX4 : ∀ a, a < 0 → ∀ b, b < 0 → a ≠ b → (TX4 a).2.1 ≠ (TX4 b).2.1 := by decide +kernel
theorem tyX4_ok : ∀ k, k < 0 → parseFieldDescriptor (TX4 k).2.2.1 = some (tyX4 k) := by decide +kernel
abbrev cX4_rowsFor : ByteArray := prog_6_method_2_code
def yX4_rowsFor : MethodName := ⟨RX4, "rowsFor", "(II)J"⟩
abbrev cX4_greatest : ByteArray := prog_6_method_3_code
def yX4_greatest : MethodName := ⟨RX4, "greatest", "(JI)I"⟩
abbrev cX4_looser : ByteArray := prog_6_method_4_code
def yX4_looser : MethodName := ⟨RX4, "looser", "(JJ)I"⟩
abbrev cX4_duties : ByteArray := prog_6_method_5_code
def yX4_duties : MethodName := ⟨RX4, "duties", "(J)I"⟩
abbrev cX4_bars : ByteArray := prog_6_method_6_code
def yX4_bars : MethodName := ⟨RX4, "bars", "(J)I"⟩
abbrev cX4_meeting : ByteArray := prog_6_method_7_code
def yX4_meeting : MethodName := ⟨RX4, "meeting", "(J)I"⟩
abbrev cX4_letThrough : ByteArray := prog_6_method_8_code
def yX4_letThrough : MethodName := ⟨RX4, "letThrough", "(I)J"⟩
abbrev cX4_itemsIn : ByteArray := prog_6_method_9_code
def yX4_itemsIn : MethodName := ⟨RX4, "itemsIn", "(J)I"⟩
def RX5 : String := "PassedDuties$Ways"
def TX5 : u_T := fun k => match k with
  | 0 => ("PassedDuties$Ways", "parts", "LPassedDuties$Parts;", true)
  | _ => ("PassedDuties$Ways", "joinsLeft", "[I", true)
def tyX5 : Nat → FieldType := fun k => match k with
  | 0 => .object "PassedDuties$Parts"
  | _ => .array .int
abbrev wsX50 : List Cond := u_ws RX5 TX5 2
theorem nmX5 : ∀ a, a < 2 → ∀ b, b < 2 → a ≠ b → (TX5 a).2.1 ≠ (TX5 b).2.1 := by decide +kernel
theorem tyX5_ok : ∀ k, k < 2 → parseFieldDescriptor (TX5 k).2.2.1 = some (tyX5 k) := by decide +kernel
abbrev cX5_init : ByteArray := prog_7_method_1_code
def yX5_init : MethodName := ⟨RX5, "<init>", "(LPassedDuties$Parts;)V"⟩
abbrev cX5_partAt : ByteArray := prog_7_method_2_code
def yX5_partAt : MethodName := ⟨RX5, "partAt", "(III)I"⟩
abbrev cX5_measure : ByteArray := prog_7_method_3_code
def yX5_measure : MethodName := ⟨RX5, "measure", "(II)V"⟩
abbrev cX5_nearer : ByteArray := prog_7_method_4_code
def yX5_nearer : MethodName := ⟨RX5, "nearer", "(III)I"⟩
def RX6 : String := "PassedDuties"
def TX6 : u_T := fun k => match k with
  | 0 => ("PassedDuties", "page", "LPassedDuties$Page;", true)
  | 1 => ("PassedDuties", "book", "LPassedDuties$Book;", true)
  | 2 => ("PassedDuties", "parts", "LPassedDuties$Parts;", true)
  | 3 => ("PassedDuties", "ways", "LPassedDuties$Ways;", true)
  | _ => ("PassedDuties", "clashes", "LPassedDuties$Clashes;", true)
def tyX6 : Nat → FieldType := fun k => match k with
  | 0 => .object "PassedDuties$Page"
  | 1 => .object "PassedDuties$Book"
  | 2 => .object "PassedDuties$Parts"
  | 3 => .object "PassedDuties$Ways"
  | _ => .object "PassedDuties$Clashes"
abbrev wsX60 : List Cond := u_ws RX6 TX6 5
theorem nmX6 : ∀ a, a < 5 → ∀ b, b < 5 → a ≠ b → (TX6 a).2.1 ≠ (TX6 b).2.1 := by decide +kernel
theorem tyX6_ok : ∀ k, k < 5 → parseFieldDescriptor (TX6 k).2.2.1 = some (tyX6 k) := by decide +kernel
abbrev cX6_init : ByteArray := prog_1_method_1_code
def yX6_init : MethodName := ⟨RX6, "<init>", "()V"⟩
abbrev cX6_letter : ByteArray := prog_1_method_2_code
def yX6_letter : MethodName := ⟨RX6, "letter", "(I)I"⟩
abbrev cX6_blank : ByteArray := prog_1_method_3_code
def yX6_blank : MethodName := ⟨RX6, "blank", "()I"⟩
abbrev cX6_fault : ByteArray := prog_1_method_4_code
def yX6_fault : MethodName := ⟨RX6, "fault", "()I"⟩
abbrev cX6_terms : ByteArray := prog_1_method_5_code
def yX6_terms : MethodName := ⟨RX6, "terms", "()I"⟩
abbrev cX6_reach : ByteArray := prog_1_method_6_code
def yX6_reach : MethodName := ⟨RX6, "reach", "(II)I"⟩
abbrev cX6_two : ByteArray := prog_1_method_7_code
def yX6_two : MethodName := ⟨RX6, "two", "(III)I"⟩
abbrev cX6_part : ByteArray := prog_1_method_8_code
def yX6_part : MethodName := ⟨RX6, "part", "(I)I"⟩
abbrev cX6_give : ByteArray := prog_1_method_9_code
def yX6_give : MethodName := ⟨RX6, "give", "(II)I"⟩
abbrev cX6_leave : ByteArray := prog_1_method_10_code
def yX6_leave : MethodName := ⟨RX6, "leave", "(I)I"⟩
abbrev cX6_join : ByteArray := prog_1_method_11_code
def yX6_join : MethodName := ⟨RX6, "join", "(III)I"⟩
abbrev cX6_kind : ByteArray := prog_1_method_12_code
def yX6_kind : MethodName := ⟨RX6, "kind", "(II)I"⟩
abbrev cX6_of : ByteArray := prog_1_method_13_code
def yX6_of : MethodName := ⟨RX6, "of", "(II)I"⟩
abbrev cX6_held : ByteArray := prog_1_method_14_code
def yX6_held : MethodName := ⟨RX6, "held", "(II)I"⟩
abbrev cX6_way : ByteArray := prog_1_method_15_code
def yX6_way : MethodName := ⟨RX6, "way", "(III)I"⟩
abbrev cX6_clash : ByteArray := prog_1_method_16_code
def yX6_clash : MethodName := ⟨RX6, "clash", "(I)I"⟩
abbrev cX6_cause : ByteArray := prog_1_method_17_code
def yX6_cause : MethodName := ⟨RX6, "cause", "(II)I"⟩
abbrev cX6_cure : ByteArray := prog_1_method_18_code
def yX6_cure : MethodName := ⟨RX6, "cure", "()I"⟩
abbrev cX6_count : ByteArray := prog_1_method_19_code
def yX6_count : MethodName := ⟨RX6, "count", "(I)I"⟩
abbrev cX6_digest : ByteArray := prog_1_method_20_code
def yX6_digest : MethodName := ⟨RX6, "digest", "()J"⟩
abbrev cX6_withTerms : ByteArray := prog_1_method_21_code
def yX6_withTerms : MethodName := ⟨RX6, "withTerms", "(J)J"⟩
abbrev cX6_withPart : ByteArray := prog_1_method_22_code
def yX6_withPart : MethodName := ⟨RX6, "withPart", "(JI)J"⟩
abbrev cX6_withClashes : ByteArray := prog_1_method_23_code
def yX6_withClashes : MethodName := ⟨RX6, "withClashes", "(J)J"⟩
abbrev cX6_mix : ByteArray := prog_1_method_24_code
def yX6_mix : MethodName := ⟨RX6, "mix", "(JJ)J"⟩
abbrev cX6_isItem : ByteArray := prog_1_method_25_code
def yX6_isItem : MethodName := ⟨RX6, "isItem", "(I)Z"⟩
abbrev cX6_isSet : ByteArray := prog_1_method_26_code
def yX6_isSet : MethodName := ⟨RX6, "isSet", "(JI)Z"⟩
def RX7 : String := "PassedDutiesModel"
def TX7 : u_T := fun k => match k with
  | 0 => ("PassedDutiesModel", "pageLength", "I", false)
  | 1 => ("PassedDutiesModel", "page", "[I", true)
  | 2 => ("PassedDutiesModel", "termsMany", "I", false)
  | 3 => ("PassedDutiesModel", "reaches", "[I", true)
  | 4 => ("PassedDutiesModel", "there", "I", false)
  | 5 => ("PassedDutiesModel", "termsOf", "[I", true)
  | 6 => ("PassedDutiesModel", "kinds", "[I", true)
  | 7 => ("PassedDutiesModel", "left", "I", false)
  | 8 => ("PassedDutiesModel", "wayMany", "I", false)
  | 9 => ("PassedDutiesModel", "wayAt", "[I", true)
  | 10 => ("PassedDutiesModel", "far", "[I", true)
  | 11 => ("PassedDutiesModel", "clashes", "I", false)
  | 12 => ("PassedDutiesModel", "clashAt", "[I", true)
  | _ => ("PassedDutiesModel", "h", "J", false)
def tyX7 : Nat → FieldType := fun k => match k with
  | 0 => .int
  | 1 => .array .int
  | 2 => .int
  | 3 => .array .int
  | 4 => .int
  | 5 => .array .int
  | 6 => .array .int
  | 7 => .int
  | 8 => .int
  | 9 => .array .int
  | 10 => .array .int
  | 11 => .int
  | 12 => .array .int
  | _ => .long
abbrev wsX70 : List Cond := u_ws RX7 TX7 14
theorem nmX7 : ∀ a, a < 14 → ∀ b, b < 14 → a ≠ b → (TX7 a).2.1 ≠ (TX7 b).2.1 := by decide +kernel
theorem tyX7_ok : ∀ k, k < 14 → parseFieldDescriptor (TX7 k).2.2.1 = some (tyX7 k) := by decide +kernel
abbrev cX7_init : ByteArray := prog_9_method_1_code
def yX7_init : MethodName := ⟨RX7, "<init>", "()V"⟩
abbrev cX7_within : ByteArray := prog_9_method_3_code
def yX7_within : MethodName := ⟨RX7, "within", "(III)Z"⟩
abbrev cX7_has : ByteArray := prog_9_method_4_code
def yX7_has : MethodName := ⟨RX7, "has", "(II)Z"⟩
abbrev cX7_ones : ByteArray := prog_9_method_5_code
def yX7_ones : MethodName := ⟨RX7, "ones", "(I)I"⟩
abbrev cX7_letter : ByteArray := prog_9_method_6_code
def yX7_letter : MethodName := ⟨RX7, "letter", "(I)I"⟩
abbrev cX7_blank : ByteArray := prog_9_method_7_code
def yX7_blank : MethodName := ⟨RX7, "blank", "()I"⟩
abbrev cX7_itemOf : ByteArray := prog_9_method_8_code
def yX7_itemOf : MethodName := ⟨RX7, "itemOf", "(I)I"⟩
abbrev cX7_readPage : ByteArray := prog_9_method_9_code
def yX7_readPage : MethodName := ⟨RX7, "readPage", "()I"⟩
abbrev cX7_fault : ByteArray := prog_9_method_10_code
def yX7_fault : MethodName := ⟨RX7, "fault", "()I"⟩
abbrev cX7_likeRead : ByteArray := prog_9_method_11_code
def yX7_likeRead : MethodName := ⟨RX7, "likeRead", "(I)I"⟩
abbrev cX7_terms : ByteArray := prog_9_method_12_code
def yX7_terms : MethodName := ⟨RX7, "terms", "()I"⟩
abbrev cX7_isTerms : ByteArray := prog_9_method_13_code
def yX7_isTerms : MethodName := ⟨RX7, "isTerms", "(I)Z"⟩
abbrev cX7_reach : ByteArray := prog_9_method_14_code
def yX7_reach : MethodName := ⟨RX7, "reach", "(II)I"⟩
abbrev cX7_isLooser : ByteArray := prog_9_method_15_code
def yX7_isLooser : MethodName := ⟨RX7, "isLooser", "(II)Z"⟩
abbrev cX7_puts : ByteArray := prog_9_method_16_code
def yX7_puts : MethodName := ⟨RX7, "puts", "(IIZ)I"⟩
abbrev cX7_two : ByteArray := prog_9_method_17_code
def yX7_two : MethodName := ⟨RX7, "two", "(III)I"⟩
abbrev cX7_isPart : ByteArray := prog_9_method_18_code
def yX7_isPart : MethodName := ⟨RX7, "isPart", "(I)Z"⟩
abbrev cX7_part : ByteArray := prog_9_method_19_code
def yX7_part : MethodName := ⟨RX7, "part", "(I)I"⟩
abbrev cX7_give : ByteArray := prog_9_method_20_code
def yX7_give : MethodName := ⟨RX7, "give", "(II)I"⟩
abbrev cX7_usesOf : ByteArray := prog_9_method_21_code
def yX7_usesOf : MethodName := ⟨RX7, "usesOf", "(I)I"⟩
abbrev cX7_usersOf : ByteArray := prog_9_method_22_code
def yX7_usersOf : MethodName := ⟨RX7, "usersOf", "(I)I"⟩
abbrev cX7_leave : ByteArray := prog_9_method_23_code
def yX7_leave : MethodName := ⟨RX7, "leave", "(I)I"⟩
abbrev cX7_join : ByteArray := prog_9_method_24_code
def yX7_join : MethodName := ⟨RX7, "join", "(III)I"⟩
abbrev cX7_kind : ByteArray := prog_9_method_25_code
def yX7_kind : MethodName := ⟨RX7, "kind", "(II)I"⟩
abbrev cX7_ownReach : ByteArray := prog_9_method_26_code
def yX7_ownReach : MethodName := ⟨RX7, "ownReach", "(II)I"⟩
abbrev cX7_withReach : ByteArray := prog_9_method_27_code
def yX7_withReach : MethodName := ⟨RX7, "withReach", "(III)I"⟩
abbrev cX7_heldNow : ByteArray := prog_9_method_28_code
def yX7_heldNow : MethodName := ⟨RX7, "heldNow", "(II)I"⟩
abbrev cX7_heldBy : ByteArray := prog_9_method_29_code
def yX7_heldBy : MethodName := ⟨RX7, "heldBy", "(II)I"⟩
abbrev cX7_clashing : ByteArray := prog_9_method_30_code
def yX7_clashing : MethodName := ⟨RX7, "clashing", "(II)I"⟩
abbrev cX7_held : ByteArray := prog_9_method_31_code
def yX7_held : MethodName := ⟨RX7, "held", "(II)I"⟩
abbrev cX7_layFar : ByteArray := prog_9_method_32_code
def yX7_layFar : MethodName := ⟨RX7, "layFar", "(II)V"⟩
abbrev cX7_isLet : ByteArray := prog_9_method_33_code
def yX7_isLet : MethodName := ⟨RX7, "isLet", "(III)Z"⟩
abbrev cX7_layWay : ByteArray := prog_9_method_34_code
def yX7_layWay : MethodName := ⟨RX7, "layWay", "(II)V"⟩
abbrev cX7_way : ByteArray := prog_9_method_35_code
def yX7_way : MethodName := ⟨RX7, "way", "(III)I"⟩
abbrev cX7_namesOf : ByteArray := prog_9_method_36_code
def yX7_namesOf : MethodName := ⟨RX7, "namesOf", "(I)I"⟩
abbrev cX7_actsOf : ByteArray := prog_9_method_37_code
def yX7_actsOf : MethodName := ⟨RX7, "actsOf", "(II)I"⟩
abbrev cX7_partNow : ByteArray := prog_9_method_38_code
def yX7_partNow : MethodName := ⟨RX7, "partNow", "(II)I"⟩
abbrev cX7_of : ByteArray := prog_9_method_39_code
def yX7_of : MethodName := ⟨RX7, "of", "(II)I"⟩
abbrev cX7_layClashes : ByteArray := prog_9_method_40_code
def yX7_layClashes : MethodName := ⟨RX7, "layClashes", "()V"⟩
abbrev cX7_clash : ByteArray := prog_9_method_41_code
def yX7_clash : MethodName := ⟨RX7, "clash", "(I)I"⟩
abbrev cX7_causeNow : ByteArray := prog_9_method_42_code
def yX7_causeNow : MethodName := ⟨RX7, "causeNow", "(II)I"⟩
abbrev cX7_cause : ByteArray := prog_9_method_43_code
def yX7_cause : MethodName := ⟨RX7, "cause", "(II)I"⟩
abbrev cX7_isClean : ByteArray := prog_9_method_44_code
def yX7_isClean : MethodName := ⟨RX7, "isClean", "(I)Z"⟩
abbrev cX7_cureNow : ByteArray := prog_9_method_45_code
def yX7_cureNow : MethodName := ⟨RX7, "cureNow", "()I"⟩
abbrev cX7_cure : ByteArray := prog_9_method_46_code
def yX7_cure : MethodName := ⟨RX7, "cure", "()I"⟩
abbrev cX7_joins : ByteArray := prog_9_method_47_code
def yX7_joins : MethodName := ⟨RX7, "joins", "()I"⟩
abbrev cX7_clashMany : ByteArray := prog_9_method_48_code
def yX7_clashMany : MethodName := ⟨RX7, "clashMany", "(Z)I"⟩
abbrev cX7_howMany : ByteArray := prog_9_method_49_code
def yX7_howMany : MethodName := ⟨RX7, "howMany", "(I)I"⟩
abbrev cX7_count : ByteArray := prog_9_method_50_code
def yX7_count : MethodName := ⟨RX7, "count", "(I)I"⟩
abbrev cX7_mix : ByteArray := prog_9_method_51_code
def yX7_mix : MethodName := ⟨RX7, "mix", "(J)V"⟩
abbrev cX7_mixPart : ByteArray := prog_9_method_52_code
def yX7_mixPart : MethodName := ⟨RX7, "mixPart", "(I)V"⟩
abbrev cX7_digest : ByteArray := prog_9_method_53_code
def yX7_digest : MethodName := ⟨RX7, "digest", "()J"⟩
def RJ6 : String := "java/lang/Integer"
def TJ6 : u_T := fun k => match k with
  | _ => ("", "", "", false)
def tyJ6 : Nat → FieldType := fun k => match k with
  | _ => .int
abbrev wsJ60 : List Cond := u_ws RJ6 TJ6 0
theorem nmJ6 : ∀ a, a < 0 → ∀ b, b < 0 → a ≠ b → (TJ6 a).2.1 ≠ (TJ6 b).2.1 := by decide +kernel
theorem tyJ6_ok : ∀ k, k < 0 → parseFieldDescriptor (TJ6 k).2.2.1 = some (tyJ6 k) := by decide +kernel
abbrev cJ6_bitCount_0f7a4 : ByteArray := prog_10_method_49_code
def yJ6_bitCount_0f7a4 : MethodName := ⟨RJ6, "bitCount", "(I)I"⟩
def RJ13 : String := "java/lang/Long"
def TJ13 : u_T := fun k => match k with
  | _ => ("", "", "", false)
def tyJ13 : Nat → FieldType := fun k => match k with
  | _ => .int
abbrev wsJ130 : List Cond := u_ws RJ13 TJ13 0
theorem nmJ13 : ∀ a, a < 0 → ∀ b, b < 0 → a ≠ b → (TJ13 a).2.1 ≠ (TJ13 b).2.1 := by decide +kernel
theorem tyJ13_ok : ∀ k, k < 0 → parseFieldDescriptor (TJ13 k).2.2.1 = some (tyJ13 k) := by decide +kernel
abbrev cJ13_bitCount_95d88 : ByteArray := prog_11_method_50_code
def yJ13_bitCount_95d88 : MethodName := ⟨RJ13, "bitCount", "(J)I"⟩
def RJ7 : String := "java/util/Arrays"
def TJ7 : u_T := fun k => match k with
  | _ => ("", "", "", false)
def tyJ7 : Nat → FieldType := fun k => match k with
  | _ => .int
abbrev wsJ70 : List Cond := u_ws RJ7 TJ7 0
theorem nmJ7 : ∀ a, a < 0 → ∀ b, b < 0 → a ≠ b → (TJ7 a).2.1 ≠ (TJ7 b).2.1 := by decide +kernel
theorem tyJ7_ok : ∀ k, k < 0 → parseFieldDescriptor (TJ7 k).2.2.1 = some (tyJ7 k) := by decide +kernel
abbrev cJ7_fill_53178 : ByteArray := prog_12_method_103_code
def yJ7_fill_53178 : MethodName := ⟨RJ7, "fill", "([II)V"⟩
def RL : String := "PassedDutiesLaw"
abbrev cL_law : ByteArray := code
def yL_law : MethodName := ⟨RL, "law", "([I)Z"⟩
def wsX0_init : List Cond := .code yX0_init cX0_init 1 none :: ([.methodLink RX0 3 objectInit, .instanceMethod objectInit, .code objectInit ⟨#[0xb1]⟩ 1 none, .arrayClass .long, .fieldLink RX0 9 "PassedDuties$Book" "rows" "[J", .fieldLink RX0 15 "PassedDuties$Book" "size" "I"] ++ wsX00)
def wsX0_has : List Cond := .code yX0_has cX0_has 2 (some .boolean) :: ([.fieldLink RX0 15 "PassedDuties$Book" "size" "I"] ++ wsX00)
def wsX0_find : List Cond := .code yX0_find cX0_find 4 (some .int) :: ([.fieldLink RX0 15 "PassedDuties$Book" "size" "I", .fieldLink RX0 9 "PassedDuties$Book" "rows" "[J"] ++ wsX00)
def wsX0_numberFor : List Cond := .code yX0_numberFor cX0_numberFor 4 (some .int) :: ([.fieldLink RX0 15 "PassedDuties$Book" "size" "I", .fieldLink RX0 9 "PassedDuties$Book" "rows" "[J", .methodLink RX0 19 yX0_find, .instanceMethod yX0_find, .selects RX0 yX0_find yX0_find, .initialized RX0, .code yX0_find cX0_find 4 (some .int)] ++ wsX00)
def wsX1_init : List Cond := .code yX1_init cX1_init 2 none :: ([.methodLink RX1 3 objectInit, .instanceMethod objectInit, .code objectInit ⟨#[0xb1]⟩ 1 none, .arrayClass .long, .fieldLink RX1 9 "PassedDuties$Clashes" "bySet" "[J", .fieldLink RX1 15 "PassedDuties$Clashes" "rows" "[J", .fieldLink RX1 18 "PassedDuties$Clashes" "keptFor" "I", .fieldLink RX1 22 "PassedDuties$Clashes" "parts" "LPassedDuties$Parts;"] ++ wsX10)
def wsX4_itemsIn : List Cond := .code yX4_itemsIn cX4_itemsIn 2 (some .int) :: ([])
def wsX4_meeting : List Cond := .code yX4_meeting cX4_meeting 3 (some .int) :: ([.methodLink RX4 15 yX4_itemsIn, .static yX4_itemsIn, .initialized RX4, .code yX4_itemsIn cX4_itemsIn 2 (some .int)])
def wsX1_meetings : List Cond := .code yX1_meetings cX1_meetings 4 (some .long) :: ([.methodLink RX1 35 yX4_meeting, .static yX4_meeting, .initialized RX4, .code yX4_meeting cX4_meeting 3 (some .int), .methodLink RX4 15 yX4_itemsIn, .static yX4_itemsIn, .code yX4_itemsIn cX4_itemsIn 2 (some .int)])
def wsX1_now : List Cond := .code yX1_now cX1_now 1 (some .long) :: ([.fieldLink RX1 22 "PassedDuties$Clashes" "parts" "LPassedDuties$Parts;", .methodLink RX1 31 yX1_meetings, .static yX1_meetings, .initialized RX1, .code yX1_meetings cX1_meetings 4 (some .long), .methodLink RX1 35 yX4_meeting, .static yX4_meeting, .initialized RX4, .code yX4_meeting cX4_meeting 3 (some .int), .methodLink RX4 15 yX4_itemsIn, .static yX4_itemsIn, .code yX4_itemsIn cX4_itemsIn 2 (some .int)] ++ wsX10 ++ wsX30)
def wsX1_partsNow : List Cond := .code yX1_partsNow cX1_partsNow 3 (some .int) :: ([.fieldLink RX1 22 "PassedDuties$Clashes" "parts" "LPassedDuties$Parts;", .methodLink RX1 35 yX4_meeting, .static yX4_meeting, .initialized RX4, .code yX4_meeting cX4_meeting 3 (some .int), .methodLink RX4 15 yX4_itemsIn, .static yX4_itemsIn, .code yX4_itemsIn cX4_itemsIn 2 (some .int)] ++ wsX10 ++ wsX30)
def wsX6_isSet : List Cond := .code yX6_isSet cX6_isSet 3 (some .boolean) :: ([])
def wsX1_at : List Cond := .code yX1_at cX1_at 6 (some .int) :: ([.methodLink RX1 41 yX1_now, .instanceMethod yX1_now, .selects RX1 yX1_now yX1_now, .initialized RX1, .code yX1_now cX1_now 1 (some .long), .fieldLink RX1 22 "PassedDuties$Clashes" "parts" "LPassedDuties$Parts;", .methodLink RX1 31 yX1_meetings, .static yX1_meetings, .code yX1_meetings cX1_meetings 4 (some .long), .methodLink RX1 35 yX4_meeting, .static yX4_meeting, .initialized RX4, .code yX4_meeting cX4_meeting 3 (some .int), .methodLink RX4 15 yX4_itemsIn, .static yX4_itemsIn, .code yX4_itemsIn cX4_itemsIn 2 (some .int), .static yX6_isSet, .initialized RX6, .code yX6_isSet cX6_isSet 3 (some .boolean)] ++ wsX10 ++ wsX30)
def wsX3_getsMore : List Cond := .code yX3_getsMore cX3_getsMore 8 (some .boolean) :: ([.fieldLink RX3 22 "PassedDuties$Parts" "through" "[J"] ++ wsX30)
def wsX3_spread : List Cond := .code yX3_spread cX3_spread 6 none :: ([.fieldLink RX3 15 "PassedDuties$Parts" "own" "[J", .static yX6_isSet, .initialized RX6, .code yX6_isSet cX6_isSet 3 (some .boolean), .methodLink RX3 79 yX3_getsMore, .instanceMethod yX3_getsMore, .selects RX3 yX3_getsMore yX3_getsMore, .initialized RX3, .code yX3_getsMore cX3_getsMore 8 (some .boolean), .fieldLink RX3 22 "PassedDuties$Parts" "through" "[J"] ++ wsX30)
def wsX1_keepAll_r1 : List Cond := [Cond.fieldLink RX1 18 "PassedDuties$Clashes" "keptFor" "I", Cond.fieldLink RX1 22 "PassedDuties$Clashes" "parts" "LPassedDuties$Parts;", Cond.fieldLink RX1 15 "PassedDuties$Clashes" "rows" "[J", Cond.fieldLink RX1 9 "PassedDuties$Clashes" "bySet" "[J", Cond.methodLink RX1 68 yX3_spread, Cond.instanceMethod yX3_spread, Cond.selects RX3 yX3_spread yX3_spread, Cond.initialized RX3, Cond.code yX3_spread cX3_spread 6 none, Cond.fieldLink RX3 15 "PassedDuties$Parts" "own" "[J", Cond.static yX6_isSet, Cond.initialized RX6, Cond.code yX6_isSet cX6_isSet 3 (some .boolean), Cond.methodLink RX3 79 yX3_getsMore, Cond.instanceMethod yX3_getsMore, Cond.selects RX3 yX3_getsMore yX3_getsMore, Cond.code yX3_getsMore cX3_getsMore 8 (some .boolean), Cond.fieldLink RX3 22 "PassedDuties$Parts" "through" "[J", Cond.methodLink RX1 31 yX1_meetings, Cond.static yX1_meetings, Cond.initialized RX1, Cond.code yX1_meetings cX1_meetings 4 (some .long), Cond.methodLink RX1 35 yX4_meeting, Cond.static yX4_meeting]
def wsX1_keepAll_r2 : List Cond := [Cond.initialized RX4, Cond.code yX4_meeting cX4_meeting 3 (some .int), Cond.methodLink RX4 15 yX4_itemsIn, Cond.static yX4_itemsIn, Cond.code yX4_itemsIn cX4_itemsIn 2 (some .int)]
def wsX1_keepAll : List Cond := .code yX1_keepAll cX1_keepAll 2 none :: ((wsX1_keepAll_r1 ++ wsX1_keepAll_r2) ++ wsX10 ++ wsX30)
def wsJ6_bitCount_0f7a4 : List Cond := .code yJ6_bitCount_0f7a4 cJ6_bitCount_0f7a4 1 (some .int) :: ([.constant RJ6 265 (1431655765), .constant RJ6 266 (858993459), .constant RJ6 267 (252645135)])
def wsX1_isFewer : List Cond := .code yX1_isFewer cX1_isFewer 3 (some .boolean) :: ([.fieldLink RX1 22 "PassedDuties$Clashes" "parts" "LPassedDuties$Parts;", .methodLink RX1 59 yJ6_bitCount_0f7a4, .static yJ6_bitCount_0f7a4, .initialized RJ6, .code yJ6_bitCount_0f7a4 cJ6_bitCount_0f7a4 1 (some .int), .constant RJ6 265 (1431655765), .constant RJ6 266 (858993459), .constant RJ6 267 (252645135)] ++ wsX10 ++ wsX30)
def wsX1_fewestFor_r1 : List Cond := [Cond.fieldLink RX1 22 "PassedDuties$Clashes" "parts" "LPassedDuties$Parts;", Cond.fieldLink RX1 9 "PassedDuties$Clashes" "bySet" "[J", Cond.methodLink RX1 41 yX1_now, Cond.instanceMethod yX1_now, Cond.selects RX1 yX1_now yX1_now, Cond.initialized RX1, Cond.code yX1_now cX1_now 1 (some .long), Cond.methodLink RX1 31 yX1_meetings, Cond.static yX1_meetings, Cond.code yX1_meetings cX1_meetings 4 (some .long), Cond.methodLink RX1 35 yX4_meeting, Cond.static yX4_meeting, Cond.initialized RX4, Cond.code yX4_meeting cX4_meeting 3 (some .int), Cond.methodLink RX4 15 yX4_itemsIn, Cond.static yX4_itemsIn, Cond.code yX4_itemsIn cX4_itemsIn 2 (some .int), Cond.static yX6_isSet, Cond.initialized RX6, Cond.code yX6_isSet cX6_isSet 3 (some .boolean), Cond.methodLink RX1 49 yX1_keepAll, Cond.instanceMethod yX1_keepAll, Cond.selects RX1 yX1_keepAll yX1_keepAll, Cond.code yX1_keepAll cX1_keepAll 2 none]
def wsX1_fewestFor_r2 : List Cond := [Cond.fieldLink RX1 18 "PassedDuties$Clashes" "keptFor" "I", Cond.fieldLink RX1 15 "PassedDuties$Clashes" "rows" "[J", Cond.methodLink RX1 68 yX3_spread, Cond.instanceMethod yX3_spread, Cond.selects RX3 yX3_spread yX3_spread, Cond.initialized RX3, Cond.code yX3_spread cX3_spread 6 none, Cond.fieldLink RX3 15 "PassedDuties$Parts" "own" "[J", Cond.methodLink RX3 79 yX3_getsMore, Cond.instanceMethod yX3_getsMore, Cond.selects RX3 yX3_getsMore yX3_getsMore, Cond.code yX3_getsMore cX3_getsMore 8 (some .boolean), Cond.fieldLink RX3 22 "PassedDuties$Parts" "through" "[J", Cond.methodLink RX1 55 yX1_isFewer, Cond.instanceMethod yX1_isFewer, Cond.selects RX1 yX1_isFewer yX1_isFewer, Cond.code yX1_isFewer cX1_isFewer 3 (some .boolean), Cond.methodLink RX1 59 yJ6_bitCount_0f7a4, Cond.static yJ6_bitCount_0f7a4, Cond.initialized RJ6, Cond.code yJ6_bitCount_0f7a4 cJ6_bitCount_0f7a4 1 (some .int), Cond.constant RJ6 265 (1431655765), Cond.constant RJ6 266 (858993459), Cond.constant RJ6 267 (252645135)]
def wsX1_fewestFor : List Cond := .code yX1_fewestFor cX1_fewestFor 4 (some .int) :: ((wsX1_fewestFor_r1 ++ wsX1_fewestFor_r2) ++ wsX10 ++ wsX30)
def wsX1_fewestToLeave_r1 : List Cond := [Cond.fieldLink RX1 22 "PassedDuties$Clashes" "parts" "LPassedDuties$Parts;", Cond.fieldLink RX1 9 "PassedDuties$Clashes" "bySet" "[J", Cond.methodLink RX1 41 yX1_now, Cond.instanceMethod yX1_now, Cond.selects RX1 yX1_now yX1_now, Cond.initialized RX1, Cond.code yX1_now cX1_now 1 (some .long), Cond.methodLink RX1 31 yX1_meetings, Cond.static yX1_meetings, Cond.code yX1_meetings cX1_meetings 4 (some .long), Cond.methodLink RX1 35 yX4_meeting, Cond.static yX4_meeting, Cond.initialized RX4, Cond.code yX4_meeting cX4_meeting 3 (some .int), Cond.methodLink RX4 15 yX4_itemsIn, Cond.static yX4_itemsIn, Cond.code yX4_itemsIn cX4_itemsIn 2 (some .int), Cond.methodLink RX1 49 yX1_keepAll, Cond.instanceMethod yX1_keepAll, Cond.selects RX1 yX1_keepAll yX1_keepAll, Cond.code yX1_keepAll cX1_keepAll 2 none, Cond.fieldLink RX1 18 "PassedDuties$Clashes" "keptFor" "I", Cond.fieldLink RX1 15 "PassedDuties$Clashes" "rows" "[J", Cond.methodLink RX1 68 yX3_spread]
def wsX1_fewestToLeave_r2 : List Cond := [Cond.instanceMethod yX3_spread, Cond.selects RX3 yX3_spread yX3_spread, Cond.initialized RX3, Cond.code yX3_spread cX3_spread 6 none, Cond.fieldLink RX3 15 "PassedDuties$Parts" "own" "[J", Cond.static yX6_isSet, Cond.initialized RX6, Cond.code yX6_isSet cX6_isSet 3 (some .boolean), Cond.methodLink RX3 79 yX3_getsMore, Cond.instanceMethod yX3_getsMore, Cond.selects RX3 yX3_getsMore yX3_getsMore, Cond.code yX3_getsMore cX3_getsMore 8 (some .boolean), Cond.fieldLink RX3 22 "PassedDuties$Parts" "through" "[J", Cond.methodLink RX1 55 yX1_isFewer, Cond.instanceMethod yX1_isFewer, Cond.selects RX1 yX1_isFewer yX1_isFewer, Cond.code yX1_isFewer cX1_isFewer 3 (some .boolean), Cond.methodLink RX1 59 yJ6_bitCount_0f7a4, Cond.static yJ6_bitCount_0f7a4, Cond.initialized RJ6, Cond.code yJ6_bitCount_0f7a4 cJ6_bitCount_0f7a4 1 (some .int), Cond.constant RJ6 265 (1431655765), Cond.constant RJ6 266 (858993459), Cond.constant RJ6 267 (252645135)]
def wsX1_fewestToLeave : List Cond := .code yX1_fewestToLeave cX1_fewestToLeave 3 (some .int) :: ((wsX1_fewestToLeave_r1 ++ wsX1_fewestToLeave_r2) ++ wsX10 ++ wsX30)
def wsX2_init : List Cond := .code yX2_init cX2_init 1 none :: ([.methodLink RX2 3 objectInit, .instanceMethod objectInit, .code objectInit ⟨#[0xb1]⟩ 1 none, .arrayClass .int, .fieldLink RX2 9 "PassedDuties$Page" "codes" "[I", .fieldLink RX2 15 "PassedDuties$Page" "length" "I"] ++ wsX20)
def wsX2_write : List Cond := .code yX2_write cX2_write 2 (some .int) :: ([.fieldLink RX2 15 "PassedDuties$Page" "length" "I", .fieldLink RX2 9 "PassedDuties$Page" "codes" "[I"] ++ wsX20)
def wsX2_wipe : List Cond := .code yX2_wipe cX2_wipe 2 (some .int) :: ([.fieldLink RX2 15 "PassedDuties$Page" "length" "I"] ++ wsX20)
def wsX2_itemOf : List Cond := .code yX2_itemOf cX2_itemOf 1 (some .int) :: ([])
def wsX2_reachOf : List Cond := .code yX2_reachOf cX2_reachOf 1 (some .int) :: ([])
def wsX2_firstFault : List Cond := .code yX2_firstFault cX2_firstFault 6 (some .int) :: ([.fieldLink RX2 15 "PassedDuties$Page" "length" "I", .fieldLink RX2 9 "PassedDuties$Page" "codes" "[I", .methodLink RX2 19 yX2_itemOf, .static yX2_itemOf, .initialized RX2, .code yX2_itemOf cX2_itemOf 1 (some .int), .methodLink RX2 23 yX2_reachOf, .static yX2_reachOf, .code yX2_reachOf cX2_reachOf 1 (some .int), .static yX6_isSet, .initialized RX6, .code yX6_isSet cX6_isSet 3 (some .boolean)] ++ wsX20)
def wsX4_rowsFor : List Cond := .code yX4_rowsFor cX4_rowsFor 5 (some .long) :: ([])
def wsX2_meaning : List Cond := .code yX2_meaning cX2_meaning 6 (some .long) :: ([.fieldLink RX2 15 "PassedDuties$Page" "length" "I", .fieldLink RX2 9 "PassedDuties$Page" "codes" "[I", .methodLink RX2 19 yX2_itemOf, .static yX2_itemOf, .initialized RX2, .code yX2_itemOf cX2_itemOf 1 (some .int), .methodLink RX2 23 yX2_reachOf, .static yX2_reachOf, .code yX2_reachOf cX2_reachOf 1 (some .int), .methodLink RX2 30 yX4_rowsFor, .static yX4_rowsFor, .initialized RX4, .code yX4_rowsFor cX4_rowsFor 5 (some .long)] ++ wsX20)
def wsJ7_fill_53178 : List Cond := .code yJ7_fill_53178 cJ7_fill_53178 4 none :: ([])
def wsX3_init : List Cond := .code yX3_init cX3_init 1 none :: ([.methodLink RX3 3 objectInit, .instanceMethod objectInit, .code objectInit ⟨#[0xb1]⟩ 1 none, .arrayClass .int, .fieldLink RX3 9 "PassedDuties$Parts" "under" "[I", .arrayClass .long, .fieldLink RX3 15 "PassedDuties$Parts" "own" "[J", .fieldLink RX3 19 "PassedDuties$Parts" "kinds" "[I", .fieldLink RX3 22 "PassedDuties$Parts" "through" "[J", .fieldLink RX3 25 "PassedDuties$Parts" "come" "[J", .fieldLink RX3 28 "PassedDuties$Parts" "there" "I", .fieldLink RX3 32 "PassedDuties$Parts" "timesLeft" "I", .fieldLink RX3 35 "PassedDuties$Parts" "changes" "I", .methodLink RX3 38 yJ7_fill_53178, .static yJ7_fill_53178, .initialized RJ7, .code yJ7_fill_53178 cJ7_fill_53178 4 none] ++ wsX30)
def wsX3_has : List Cond := .code yX3_has cX3_has 2 (some .boolean) :: ([.fieldLink RX3 28 "PassedDuties$Parts" "there" "I", .static yX6_isSet, .initialized RX6, .code yX6_isSet cX6_isSet 3 (some .boolean)] ++ wsX30)
def wsX3_leastFree : List Cond := .code yX3_leastFree cX3_leastFree 2 (some .int) :: ([.methodLink RX3 48 yX3_has, .instanceMethod yX3_has, .selects RX3 yX3_has yX3_has, .initialized RX3, .code yX3_has cX3_has 2 (some .boolean), .fieldLink RX3 28 "PassedDuties$Parts" "there" "I", .static yX6_isSet, .initialized RX6, .code yX6_isSet cX6_isSet 3 (some .boolean)] ++ wsX30)
def wsX3_settle : List Cond := .code yX3_settle cX3_settle 1 none :: ([.fieldLink RX3 35 "PassedDuties$Parts" "changes" "I", .fieldLink RX3 28 "PassedDuties$Parts" "there" "I", .fieldLink RX3 25 "PassedDuties$Parts" "come" "[J", .methodLink RX3 87 yX3_spread, .instanceMethod yX3_spread, .selects RX3 yX3_spread yX3_spread, .initialized RX3, .code yX3_spread cX3_spread 6 none, .fieldLink RX3 15 "PassedDuties$Parts" "own" "[J", .static yX6_isSet, .initialized RX6, .code yX6_isSet cX6_isSet 3 (some .boolean), .methodLink RX3 79 yX3_getsMore, .instanceMethod yX3_getsMore, .selects RX3 yX3_getsMore yX3_getsMore, .code yX3_getsMore cX3_getsMore 8 (some .boolean), .fieldLink RX3 22 "PassedDuties$Parts" "through" "[J"] ++ wsX30)
def wsX3_put : List Cond := .code yX3_put cX3_put 5 none :: ([.fieldLink RX3 28 "PassedDuties$Parts" "there" "I", .fieldLink RX3 9 "PassedDuties$Parts" "under" "[I", .fieldLink RX3 15 "PassedDuties$Parts" "own" "[J", .methodLink RX3 52 yX3_settle, .instanceMethod yX3_settle, .selects RX3 yX3_settle yX3_settle, .initialized RX3, .code yX3_settle cX3_settle 1 none, .fieldLink RX3 35 "PassedDuties$Parts" "changes" "I", .fieldLink RX3 25 "PassedDuties$Parts" "come" "[J", .methodLink RX3 87 yX3_spread, .instanceMethod yX3_spread, .selects RX3 yX3_spread yX3_spread, .code yX3_spread cX3_spread 6 none, .static yX6_isSet, .initialized RX6, .code yX6_isSet cX6_isSet 3 (some .boolean), .methodLink RX3 79 yX3_getsMore, .instanceMethod yX3_getsMore, .selects RX3 yX3_getsMore yX3_getsMore, .code yX3_getsMore cX3_getsMore 8 (some .boolean), .fieldLink RX3 22 "PassedDuties$Parts" "through" "[J"] ++ wsX30)
def wsX3_kindOf : List Cond := .code yX3_kindOf cX3_kindOf 3 (some .int) :: ([.fieldLink RX3 19 "PassedDuties$Parts" "kinds" "[I"] ++ wsX30)
def wsX3_joinsFrom : List Cond := .code yX3_joinsFrom cX3_joinsFrom 4 (some .int) :: ([.methodLink RX3 66 yX3_kindOf, .instanceMethod yX3_kindOf, .selects RX3 yX3_kindOf yX3_kindOf, .initialized RX3, .code yX3_kindOf cX3_kindOf 3 (some .int), .fieldLink RX3 19 "PassedDuties$Parts" "kinds" "[I"] ++ wsX30)
def wsX3_joinsTo : List Cond := .code yX3_joinsTo cX3_joinsTo 4 (some .int) :: ([.methodLink RX3 66 yX3_kindOf, .instanceMethod yX3_kindOf, .selects RX3 yX3_kindOf yX3_kindOf, .initialized RX3, .code yX3_kindOf cX3_kindOf 3 (some .int), .fieldLink RX3 19 "PassedDuties$Parts" "kinds" "[I"] ++ wsX30)
def wsX4_letThrough : List Cond := .code yX4_letThrough cX4_letThrough 1 (some .long) :: ([.constantLong RX4 21 (68719476735), .constantLong RX4 13 (-1)])
def wsX3_setJoin : List Cond := .code yX3_setJoin cX3_setJoin 4 none :: ([.fieldLink RX3 19 "PassedDuties$Parts" "kinds" "[I", .fieldLink RX3 22 "PassedDuties$Parts" "through" "[J", .methodLink RX3 83 yX4_letThrough, .static yX4_letThrough, .initialized RX4, .code yX4_letThrough cX4_letThrough 1 (some .long), .constantLong RX4 21 (68719476735), .constantLong RX4 13 (-1)] ++ wsX30)
def wsX3_remove_r1 : List Cond := [Cond.fieldLink RX3 28 "PassedDuties$Parts" "there" "I", Cond.fieldLink RX3 32 "PassedDuties$Parts" "timesLeft" "I", Cond.methodLink RX3 55 yX3_joinsFrom, Cond.instanceMethod yX3_joinsFrom, Cond.selects RX3 yX3_joinsFrom yX3_joinsFrom, Cond.initialized RX3, Cond.code yX3_joinsFrom cX3_joinsFrom 4 (some .int), Cond.methodLink RX3 66 yX3_kindOf, Cond.instanceMethod yX3_kindOf, Cond.selects RX3 yX3_kindOf yX3_kindOf, Cond.code yX3_kindOf cX3_kindOf 3 (some .int), Cond.fieldLink RX3 19 "PassedDuties$Parts" "kinds" "[I", Cond.methodLink RX3 59 yX3_joinsTo, Cond.instanceMethod yX3_joinsTo, Cond.selects RX3 yX3_joinsTo yX3_joinsTo, Cond.code yX3_joinsTo cX3_joinsTo 4 (some .int), Cond.methodLink RX3 62 yX3_setJoin, Cond.instanceMethod yX3_setJoin, Cond.selects RX3 yX3_setJoin yX3_setJoin, Cond.code yX3_setJoin cX3_setJoin 4 none, Cond.fieldLink RX3 22 "PassedDuties$Parts" "through" "[J", Cond.methodLink RX3 83 yX4_letThrough, Cond.static yX4_letThrough, Cond.initialized RX4]
def wsX3_remove_r2 : List Cond := [Cond.code yX4_letThrough cX4_letThrough 1 (some .long), Cond.constantLong RX4 21 (68719476735), Cond.constantLong RX4 13 (-1), Cond.methodLink RX3 52 yX3_settle, Cond.instanceMethod yX3_settle, Cond.selects RX3 yX3_settle yX3_settle, Cond.code yX3_settle cX3_settle 1 none, Cond.fieldLink RX3 35 "PassedDuties$Parts" "changes" "I", Cond.fieldLink RX3 25 "PassedDuties$Parts" "come" "[J", Cond.methodLink RX3 87 yX3_spread, Cond.instanceMethod yX3_spread, Cond.selects RX3 yX3_spread yX3_spread, Cond.code yX3_spread cX3_spread 6 none, Cond.fieldLink RX3 15 "PassedDuties$Parts" "own" "[J", Cond.static yX6_isSet, Cond.initialized RX6, Cond.code yX6_isSet cX6_isSet 3 (some .boolean), Cond.methodLink RX3 79 yX3_getsMore, Cond.instanceMethod yX3_getsMore, Cond.selects RX3 yX3_getsMore yX3_getsMore, Cond.code yX3_getsMore cX3_getsMore 8 (some .boolean)]
def wsX3_remove : List Cond := .code yX3_remove cX3_remove 4 (some .int) :: ((wsX3_remove_r1 ++ wsX3_remove_r2) ++ wsX30)
def wsX3_setKind_r1 : List Cond := [Cond.methodLink RX3 62 yX3_setJoin, Cond.instanceMethod yX3_setJoin, Cond.selects RX3 yX3_setJoin yX3_setJoin, Cond.initialized RX3, Cond.code yX3_setJoin cX3_setJoin 4 none, Cond.fieldLink RX3 19 "PassedDuties$Parts" "kinds" "[I", Cond.fieldLink RX3 22 "PassedDuties$Parts" "through" "[J", Cond.methodLink RX3 83 yX4_letThrough, Cond.static yX4_letThrough, Cond.initialized RX4, Cond.code yX4_letThrough cX4_letThrough 1 (some .long), Cond.constantLong RX4 21 (68719476735), Cond.constantLong RX4 13 (-1), Cond.methodLink RX3 52 yX3_settle, Cond.instanceMethod yX3_settle, Cond.selects RX3 yX3_settle yX3_settle, Cond.code yX3_settle cX3_settle 1 none, Cond.fieldLink RX3 35 "PassedDuties$Parts" "changes" "I", Cond.fieldLink RX3 28 "PassedDuties$Parts" "there" "I", Cond.fieldLink RX3 25 "PassedDuties$Parts" "come" "[J", Cond.methodLink RX3 87 yX3_spread, Cond.instanceMethod yX3_spread, Cond.selects RX3 yX3_spread yX3_spread, Cond.code yX3_spread cX3_spread 6 none]
def wsX3_setKind_r2 : List Cond := [Cond.fieldLink RX3 15 "PassedDuties$Parts" "own" "[J", Cond.static yX6_isSet, Cond.initialized RX6, Cond.code yX6_isSet cX6_isSet 3 (some .boolean), Cond.methodLink RX3 79 yX3_getsMore, Cond.instanceMethod yX3_getsMore, Cond.selects RX3 yX3_getsMore yX3_getsMore, Cond.code yX3_getsMore cX3_getsMore 8 (some .boolean)]
def wsX3_setKind : List Cond := .code yX3_setKind cX3_setKind 4 none :: ((wsX3_setKind_r1 ++ wsX3_setKind_r2) ++ wsX30)
def wsX3_lets : List Cond := .code yX3_lets cX3_lets 5 (some .boolean) :: ([.methodLink RX3 66 yX3_kindOf, .instanceMethod yX3_kindOf, .selects RX3 yX3_kindOf yX3_kindOf, .initialized RX3, .code yX3_kindOf cX3_kindOf 3 (some .int), .fieldLink RX3 19 "PassedDuties$Parts" "kinds" "[I"] ++ wsX30)
def wsX4_greatest : List Cond := .code yX4_greatest cX4_greatest 4 (some .int) :: ([.static yX6_isSet, .initialized RX6, .code yX6_isSet cX6_isSet 3 (some .boolean)])
def wsX3_reachHeld : List Cond := .code yX3_reachHeld cX3_reachHeld 3 (some .int) :: ([.fieldLink RX3 25 "PassedDuties$Parts" "come" "[J", .methodLink RX3 70 yX4_greatest, .static yX4_greatest, .initialized RX4, .code yX4_greatest cX4_greatest 4 (some .int), .static yX6_isSet, .initialized RX6, .code yX6_isSet cX6_isSet 3 (some .boolean)] ++ wsX30)
def wsX3_joins : List Cond := .code yX3_joins cX3_joins 3 (some .int) :: ([.methodLink RX3 55 yX3_joinsFrom, .instanceMethod yX3_joinsFrom, .selects RX3 yX3_joinsFrom yX3_joinsFrom, .initialized RX3, .code yX3_joinsFrom cX3_joinsFrom 4 (some .int), .methodLink RX3 66 yX3_kindOf, .instanceMethod yX3_kindOf, .selects RX3 yX3_kindOf yX3_kindOf, .code yX3_kindOf cX3_kindOf 3 (some .int), .fieldLink RX3 19 "PassedDuties$Parts" "kinds" "[I"] ++ wsX30)
def wsX3_namedBy : List Cond := .code yX3_namedBy cX3_namedBy 5 (some .int) :: ([.methodLink RX3 66 yX3_kindOf, .instanceMethod yX3_kindOf, .selects RX3 yX3_kindOf yX3_kindOf, .initialized RX3, .code yX3_kindOf cX3_kindOf 3 (some .int), .fieldLink RX3 19 "PassedDuties$Parts" "kinds" "[I"] ++ wsX30)
def wsX3_namesOf : List Cond := .code yX3_namesOf cX3_namesOf 5 (some .int) :: ([.static yX6_isSet, .initialized RX6, .code yX6_isSet cX6_isSet 3 (some .boolean), .methodLink RX3 76 yX3_namedBy, .instanceMethod yX3_namedBy, .selects RX3 yX3_namedBy yX3_namedBy, .initialized RX3, .code yX3_namedBy cX3_namedBy 5 (some .int), .methodLink RX3 66 yX3_kindOf, .instanceMethod yX3_kindOf, .selects RX3 yX3_kindOf yX3_kindOf, .code yX3_kindOf cX3_kindOf 3 (some .int), .fieldLink RX3 19 "PassedDuties$Parts" "kinds" "[I"] ++ wsX30)
def wsX4_looser : List Cond := .code yX4_looser cX4_looser 6 (some .int) :: ([.constantLong RX4 13 (-1)])
def wsX4_duties : List Cond := .code yX4_duties cX4_duties 2 (some .int) :: ([.methodLink RX4 15 yX4_itemsIn, .static yX4_itemsIn, .initialized RX4, .code yX4_itemsIn cX4_itemsIn 2 (some .int)])
def wsX4_bars : List Cond := .code yX4_bars cX4_bars 2 (some .int) :: ([.methodLink RX4 15 yX4_itemsIn, .static yX4_itemsIn, .initialized RX4, .code yX4_itemsIn cX4_itemsIn 2 (some .int)])
def wsX5_init : List Cond := .code yX5_init cX5_init 2 none :: ([.methodLink RX5 3 objectInit, .instanceMethod objectInit, .code objectInit ⟨#[0xb1]⟩ 1 none, .arrayClass .int, .fieldLink RX5 9 "PassedDuties$Ways" "joinsLeft" "[I", .fieldLink RX5 15 "PassedDuties$Ways" "parts" "LPassedDuties$Parts;"] ++ wsX50)
def wsX5_nearer : List Cond := .code yX5_nearer cX5_nearer 5 (some .int) :: ([.fieldLink RX5 9 "PassedDuties$Ways" "joinsLeft" "[I", .fieldLink RX5 15 "PassedDuties$Ways" "parts" "LPassedDuties$Parts;", .methodLink RX5 47 yX3_lets, .instanceMethod yX3_lets, .selects RX3 yX3_lets yX3_lets, .initialized RX3, .code yX3_lets cX3_lets 5 (some .boolean), .methodLink RX3 66 yX3_kindOf, .instanceMethod yX3_kindOf, .selects RX3 yX3_kindOf yX3_kindOf, .code yX3_kindOf cX3_kindOf 3 (some .int), .fieldLink RX3 19 "PassedDuties$Parts" "kinds" "[I"] ++ wsX50 ++ wsX30)
def wsX5_measure_r1 : List Cond := [Cond.fieldLink RX5 15 "PassedDuties$Ways" "parts" "LPassedDuties$Parts;", Cond.fieldLink RX5 9 "PassedDuties$Ways" "joinsLeft" "[I", Cond.methodLink RX5 33 yX3_has, Cond.instanceMethod yX3_has, Cond.selects RX3 yX3_has yX3_has, Cond.initialized RX3, Cond.code yX3_has cX3_has 2 (some .boolean), Cond.fieldLink RX3 28 "PassedDuties$Parts" "there" "I", Cond.static yX6_isSet, Cond.initialized RX6, Cond.code yX6_isSet cX6_isSet 3 (some .boolean), Cond.methodLink RX5 41 yX4_greatest, Cond.static yX4_greatest, Cond.initialized RX4, Cond.code yX4_greatest cX4_greatest 4 (some .int), Cond.methodLink RX5 29 yX5_nearer, Cond.instanceMethod yX5_nearer, Cond.selects RX5 yX5_nearer yX5_nearer, Cond.initialized RX5, Cond.code yX5_nearer cX5_nearer 5 (some .int), Cond.methodLink RX5 47 yX3_lets, Cond.instanceMethod yX3_lets, Cond.selects RX3 yX3_lets yX3_lets, Cond.code yX3_lets cX3_lets 5 (some .boolean)]
def wsX5_measure_r2 : List Cond := [Cond.methodLink RX3 66 yX3_kindOf, Cond.instanceMethod yX3_kindOf, Cond.selects RX3 yX3_kindOf yX3_kindOf, Cond.code yX3_kindOf cX3_kindOf 3 (some .int), Cond.fieldLink RX3 19 "PassedDuties$Parts" "kinds" "[I"]
def wsX5_measure : List Cond := .code yX5_measure cX5_measure 5 none :: ((wsX5_measure_r1 ++ wsX5_measure_r2) ++ wsX50 ++ wsX30)
def wsX5_partAt_r1 : List Cond := [Cond.fieldLink RX5 15 "PassedDuties$Ways" "parts" "LPassedDuties$Parts;", Cond.fieldLink RX5 9 "PassedDuties$Ways" "joinsLeft" "[I", Cond.methodLink RX5 19 yX3_reachHeld, Cond.instanceMethod yX3_reachHeld, Cond.selects RX3 yX3_reachHeld yX3_reachHeld, Cond.initialized RX3, Cond.code yX3_reachHeld cX3_reachHeld 3 (some .int), Cond.fieldLink RX3 25 "PassedDuties$Parts" "come" "[J", Cond.methodLink RX3 70 yX4_greatest, Cond.static yX4_greatest, Cond.initialized RX4, Cond.code yX4_greatest cX4_greatest 4 (some .int), Cond.static yX6_isSet, Cond.initialized RX6, Cond.code yX6_isSet cX6_isSet 3 (some .boolean), Cond.methodLink RX5 25 yX5_measure, Cond.instanceMethod yX5_measure, Cond.selects RX5 yX5_measure yX5_measure, Cond.initialized RX5, Cond.code yX5_measure cX5_measure 5 none, Cond.methodLink RX5 33 yX3_has, Cond.instanceMethod yX3_has, Cond.selects RX3 yX3_has yX3_has, Cond.code yX3_has cX3_has 2 (some .boolean)]
def wsX5_partAt_r2 : List Cond := [Cond.fieldLink RX3 28 "PassedDuties$Parts" "there" "I", Cond.methodLink RX5 41 yX4_greatest, Cond.methodLink RX5 29 yX5_nearer, Cond.instanceMethod yX5_nearer, Cond.selects RX5 yX5_nearer yX5_nearer, Cond.code yX5_nearer cX5_nearer 5 (some .int), Cond.methodLink RX5 47 yX3_lets, Cond.instanceMethod yX3_lets, Cond.selects RX3 yX3_lets yX3_lets, Cond.code yX3_lets cX3_lets 5 (some .boolean), Cond.methodLink RX3 66 yX3_kindOf, Cond.instanceMethod yX3_kindOf, Cond.selects RX3 yX3_kindOf yX3_kindOf, Cond.code yX3_kindOf cX3_kindOf 3 (some .int), Cond.fieldLink RX3 19 "PassedDuties$Parts" "kinds" "[I"]
def wsX5_partAt : List Cond := .code yX5_partAt cX5_partAt 7 (some .int) :: ((wsX5_partAt_r1 ++ wsX5_partAt_r2) ++ wsX50 ++ wsX30)
def wsX6_init_r1 : List Cond := [Cond.methodLink RX6 3 objectInit, Cond.instanceMethod objectInit, Cond.code objectInit ⟨#[0xb1]⟩ 1 none, Cond.classLink RX6 9 RX2, Cond.instantiable RX2 2, Cond.initialized RX2, Cond.fieldLink RX6 12 "PassedDuties" "page" "LPassedDuties$Page;", Cond.classLink RX6 16 RX0, Cond.instantiable RX0 2, Cond.initialized RX0, Cond.fieldLink RX6 19 "PassedDuties" "book" "LPassedDuties$Book;", Cond.classLink RX6 23 RX3, Cond.instantiable RX3 8, Cond.initialized RX3, Cond.fieldLink RX6 26 "PassedDuties" "parts" "LPassedDuties$Parts;", Cond.classLink RX6 30 RX5, Cond.instantiable RX5 2, Cond.initialized RX5, Cond.fieldLink RX6 35 "PassedDuties" "ways" "LPassedDuties$Ways;", Cond.classLink RX6 39 RX1, Cond.instantiable RX1 4, Cond.initialized RX1, Cond.fieldLink RX6 42 "PassedDuties" "clashes" "LPassedDuties$Clashes;", Cond.instanceMethod yX2_init]
def wsX6_init_r2 : List Cond := [Cond.code yX2_init cX2_init 1 none, Cond.methodLink RX2 3 objectInit, Cond.arrayClass .int, Cond.fieldLink RX2 9 "PassedDuties$Page" "codes" "[I", Cond.fieldLink RX2 15 "PassedDuties$Page" "length" "I", Cond.instanceMethod yX0_init, Cond.code yX0_init cX0_init 1 none, Cond.methodLink RX0 3 objectInit, Cond.arrayClass .long, Cond.fieldLink RX0 9 "PassedDuties$Book" "rows" "[J", Cond.fieldLink RX0 15 "PassedDuties$Book" "size" "I", Cond.methodLink RX6 25 yX3_init, Cond.instanceMethod yX3_init, Cond.code yX3_init cX3_init 1 none, Cond.methodLink RX3 3 objectInit, Cond.fieldLink RX3 9 "PassedDuties$Parts" "under" "[I", Cond.fieldLink RX3 15 "PassedDuties$Parts" "own" "[J", Cond.fieldLink RX3 19 "PassedDuties$Parts" "kinds" "[I", Cond.fieldLink RX3 22 "PassedDuties$Parts" "through" "[J", Cond.fieldLink RX3 25 "PassedDuties$Parts" "come" "[J", Cond.fieldLink RX3 28 "PassedDuties$Parts" "there" "I", Cond.fieldLink RX3 32 "PassedDuties$Parts" "timesLeft" "I", Cond.fieldLink RX3 35 "PassedDuties$Parts" "changes" "I", Cond.methodLink RX3 38 yJ7_fill_53178]
def wsX6_init_r3 : List Cond := [Cond.static yJ7_fill_53178, Cond.initialized RJ7, Cond.code yJ7_fill_53178 cJ7_fill_53178 4 none, Cond.methodLink RX6 32 yX5_init, Cond.instanceMethod yX5_init, Cond.code yX5_init cX5_init 2 none, Cond.methodLink RX5 3 objectInit, Cond.fieldLink RX5 9 "PassedDuties$Ways" "joinsLeft" "[I", Cond.fieldLink RX5 15 "PassedDuties$Ways" "parts" "LPassedDuties$Parts;", Cond.methodLink RX6 41 yX1_init, Cond.instanceMethod yX1_init, Cond.code yX1_init cX1_init 2 none, Cond.methodLink RX1 3 objectInit, Cond.fieldLink RX1 9 "PassedDuties$Clashes" "bySet" "[J", Cond.fieldLink RX1 15 "PassedDuties$Clashes" "rows" "[J", Cond.fieldLink RX1 18 "PassedDuties$Clashes" "keptFor" "I", Cond.fieldLink RX1 22 "PassedDuties$Clashes" "parts" "LPassedDuties$Parts;"]
def wsX6_init : List Cond := .code yX6_init cX6_init 1 none :: ((wsX6_init_r1 ++ (wsX6_init_r2 ++ wsX6_init_r3)) ++ wsX20 ++ wsX60 ++ wsX00 ++ wsX30 ++ wsX50 ++ wsX10)
def wsX6_letter : List Cond := .code yX6_letter cX6_letter 2 (some .int) :: ([.fieldLink RX6 12 "PassedDuties" "page" "LPassedDuties$Page;", .methodLink RX6 50 yX2_write, .instanceMethod yX2_write, .selects RX2 yX2_write yX2_write, .initialized RX2, .code yX2_write cX2_write 2 (some .int), .fieldLink RX2 15 "PassedDuties$Page" "length" "I", .fieldLink RX2 9 "PassedDuties$Page" "codes" "[I"] ++ wsX60 ++ wsX20)
def wsX6_blank : List Cond := .code yX6_blank cX6_blank 1 (some .int) :: ([.fieldLink RX6 12 "PassedDuties" "page" "LPassedDuties$Page;", .methodLink RX6 54 yX2_wipe, .instanceMethod yX2_wipe, .selects RX2 yX2_wipe yX2_wipe, .initialized RX2, .code yX2_wipe cX2_wipe 2 (some .int), .fieldLink RX2 15 "PassedDuties$Page" "length" "I"] ++ wsX60 ++ wsX20)
def wsX6_fault : List Cond := .code yX6_fault cX6_fault 1 (some .int) :: ([.fieldLink RX6 12 "PassedDuties" "page" "LPassedDuties$Page;", .methodLink RX6 58 yX2_firstFault, .instanceMethod yX2_firstFault, .selects RX2 yX2_firstFault yX2_firstFault, .initialized RX2, .code yX2_firstFault cX2_firstFault 6 (some .int), .fieldLink RX2 15 "PassedDuties$Page" "length" "I", .fieldLink RX2 9 "PassedDuties$Page" "codes" "[I", .methodLink RX2 19 yX2_itemOf, .static yX2_itemOf, .code yX2_itemOf cX2_itemOf 1 (some .int), .methodLink RX2 23 yX2_reachOf, .static yX2_reachOf, .code yX2_reachOf cX2_reachOf 1 (some .int), .static yX6_isSet, .initialized RX6, .code yX6_isSet cX6_isSet 3 (some .boolean)] ++ wsX60 ++ wsX20)
def wsX6_terms_r1 : List Cond := [Cond.fieldLink RX6 12 "PassedDuties" "page" "LPassedDuties$Page;", Cond.fieldLink RX6 19 "PassedDuties" "book" "LPassedDuties$Book;", Cond.methodLink RX6 58 yX2_firstFault, Cond.instanceMethod yX2_firstFault, Cond.selects RX2 yX2_firstFault yX2_firstFault, Cond.initialized RX2, Cond.code yX2_firstFault cX2_firstFault 6 (some .int), Cond.fieldLink RX2 15 "PassedDuties$Page" "length" "I", Cond.fieldLink RX2 9 "PassedDuties$Page" "codes" "[I", Cond.methodLink RX2 19 yX2_itemOf, Cond.static yX2_itemOf, Cond.code yX2_itemOf cX2_itemOf 1 (some .int), Cond.methodLink RX2 23 yX2_reachOf, Cond.static yX2_reachOf, Cond.code yX2_reachOf cX2_reachOf 1 (some .int), Cond.static yX6_isSet, Cond.initialized RX6, Cond.code yX6_isSet cX6_isSet 3 (some .boolean), Cond.methodLink RX6 61 yX2_meaning, Cond.instanceMethod yX2_meaning, Cond.selects RX2 yX2_meaning yX2_meaning, Cond.code yX2_meaning cX2_meaning 6 (some .long), Cond.methodLink RX2 30 yX4_rowsFor, Cond.static yX4_rowsFor]
def wsX6_terms_r2 : List Cond := [Cond.initialized RX4, Cond.code yX4_rowsFor cX4_rowsFor 5 (some .long), Cond.methodLink RX6 65 yX0_numberFor, Cond.instanceMethod yX0_numberFor, Cond.selects RX0 yX0_numberFor yX0_numberFor, Cond.initialized RX0, Cond.code yX0_numberFor cX0_numberFor 4 (some .int), Cond.fieldLink RX0 15 "PassedDuties$Book" "size" "I", Cond.fieldLink RX0 9 "PassedDuties$Book" "rows" "[J", Cond.methodLink RX0 19 yX0_find, Cond.instanceMethod yX0_find, Cond.selects RX0 yX0_find yX0_find, Cond.code yX0_find cX0_find 4 (some .int), Cond.methodLink RX6 54 yX2_wipe, Cond.instanceMethod yX2_wipe, Cond.selects RX2 yX2_wipe yX2_wipe, Cond.code yX2_wipe cX2_wipe 2 (some .int)]
def wsX6_terms : List Cond := .code yX6_terms cX6_terms 2 (some .int) :: ((wsX6_terms_r1 ++ wsX6_terms_r2) ++ wsX60 ++ wsX20 ++ wsX00)
def wsX6_isItem : List Cond := .code yX6_isItem cX6_isItem 1 (some .boolean) :: ([])
def wsX6_reach : List Cond := .code yX6_reach cX6_reach 3 (some .int) :: ([.fieldLink RX6 19 "PassedDuties" "book" "LPassedDuties$Book;", .methodLink RX6 69 yX0_has, .instanceMethod yX0_has, .selects RX0 yX0_has yX0_has, .initialized RX0, .code yX0_has cX0_has 2 (some .boolean), .fieldLink RX0 15 "PassedDuties$Book" "size" "I", .methodLink RX6 73 yX6_isItem, .static yX6_isItem, .initialized RX6, .code yX6_isItem cX6_isItem 1 (some .boolean), .methodLink RX6 80 yX4_greatest, .static yX4_greatest, .initialized RX4, .code yX4_greatest cX4_greatest 4 (some .int), .static yX6_isSet, .code yX6_isSet cX6_isSet 3 (some .boolean)] ++ wsX60 ++ wsX00)
def wsX6_two : List Cond := .code yX6_two cX6_two 8 (some .int) :: ([.fieldLink RX6 19 "PassedDuties" "book" "LPassedDuties$Book;", .methodLink RX6 69 yX0_has, .instanceMethod yX0_has, .selects RX0 yX0_has yX0_has, .initialized RX0, .code yX0_has cX0_has 2 (some .boolean), .fieldLink RX0 15 "PassedDuties$Book" "size" "I", .methodLink RX6 86 yX4_looser, .static yX4_looser, .initialized RX4, .code yX4_looser cX4_looser 6 (some .int), .constantLong RX4 13 (-1), .methodLink RX6 90 yX0_find, .instanceMethod yX0_find, .selects RX0 yX0_find yX0_find, .code yX0_find cX0_find 4 (some .int), .fieldLink RX0 9 "PassedDuties$Book" "rows" "[J"] ++ wsX60 ++ wsX00)
def wsX6_part_r1 : List Cond := [Cond.fieldLink RX6 19 "PassedDuties" "book" "LPassedDuties$Book;", Cond.fieldLink RX6 26 "PassedDuties" "parts" "LPassedDuties$Parts;", Cond.methodLink RX6 69 yX0_has, Cond.instanceMethod yX0_has, Cond.selects RX0 yX0_has yX0_has, Cond.initialized RX0, Cond.code yX0_has cX0_has 2 (some .boolean), Cond.fieldLink RX0 15 "PassedDuties$Book" "size" "I", Cond.methodLink RX6 93 yX3_leastFree, Cond.instanceMethod yX3_leastFree, Cond.selects RX3 yX3_leastFree yX3_leastFree, Cond.initialized RX3, Cond.code yX3_leastFree cX3_leastFree 2 (some .int), Cond.methodLink RX3 48 yX3_has, Cond.instanceMethod yX3_has, Cond.selects RX3 yX3_has yX3_has, Cond.code yX3_has cX3_has 2 (some .boolean), Cond.fieldLink RX3 28 "PassedDuties$Parts" "there" "I", Cond.static yX6_isSet, Cond.initialized RX6, Cond.code yX6_isSet cX6_isSet 3 (some .boolean), Cond.methodLink RX6 96 yX3_put, Cond.instanceMethod yX3_put, Cond.selects RX3 yX3_put yX3_put]
def wsX6_part_r2 : List Cond := [Cond.code yX3_put cX3_put 5 none, Cond.fieldLink RX3 9 "PassedDuties$Parts" "under" "[I", Cond.fieldLink RX3 15 "PassedDuties$Parts" "own" "[J", Cond.methodLink RX3 52 yX3_settle, Cond.instanceMethod yX3_settle, Cond.selects RX3 yX3_settle yX3_settle, Cond.code yX3_settle cX3_settle 1 none, Cond.fieldLink RX3 35 "PassedDuties$Parts" "changes" "I", Cond.fieldLink RX3 25 "PassedDuties$Parts" "come" "[J", Cond.methodLink RX3 87 yX3_spread, Cond.instanceMethod yX3_spread, Cond.selects RX3 yX3_spread yX3_spread, Cond.code yX3_spread cX3_spread 6 none, Cond.methodLink RX3 79 yX3_getsMore, Cond.instanceMethod yX3_getsMore, Cond.selects RX3 yX3_getsMore yX3_getsMore, Cond.code yX3_getsMore cX3_getsMore 8 (some .boolean), Cond.fieldLink RX3 22 "PassedDuties$Parts" "through" "[J"]
def wsX6_part : List Cond := .code yX6_part cX6_part 3 (some .int) :: ((wsX6_part_r1 ++ wsX6_part_r2) ++ wsX60 ++ wsX00 ++ wsX30)
def wsX6_give_r1 : List Cond := [Cond.fieldLink RX6 26 "PassedDuties" "parts" "LPassedDuties$Parts;", Cond.fieldLink RX6 19 "PassedDuties" "book" "LPassedDuties$Book;", Cond.methodLink RX6 100 yX3_has, Cond.instanceMethod yX3_has, Cond.selects RX3 yX3_has yX3_has, Cond.initialized RX3, Cond.code yX3_has cX3_has 2 (some .boolean), Cond.fieldLink RX3 28 "PassedDuties$Parts" "there" "I", Cond.static yX6_isSet, Cond.initialized RX6, Cond.code yX6_isSet cX6_isSet 3 (some .boolean), Cond.methodLink RX6 69 yX0_has, Cond.instanceMethod yX0_has, Cond.selects RX0 yX0_has yX0_has, Cond.initialized RX0, Cond.code yX0_has cX0_has 2 (some .boolean), Cond.fieldLink RX0 15 "PassedDuties$Book" "size" "I", Cond.methodLink RX6 96 yX3_put, Cond.instanceMethod yX3_put, Cond.selects RX3 yX3_put yX3_put, Cond.code yX3_put cX3_put 5 none, Cond.fieldLink RX3 9 "PassedDuties$Parts" "under" "[I", Cond.fieldLink RX3 15 "PassedDuties$Parts" "own" "[J", Cond.methodLink RX3 52 yX3_settle]
def wsX6_give_r2 : List Cond := [Cond.instanceMethod yX3_settle, Cond.selects RX3 yX3_settle yX3_settle, Cond.code yX3_settle cX3_settle 1 none, Cond.fieldLink RX3 35 "PassedDuties$Parts" "changes" "I", Cond.fieldLink RX3 25 "PassedDuties$Parts" "come" "[J", Cond.methodLink RX3 87 yX3_spread, Cond.instanceMethod yX3_spread, Cond.selects RX3 yX3_spread yX3_spread, Cond.code yX3_spread cX3_spread 6 none, Cond.methodLink RX3 79 yX3_getsMore, Cond.instanceMethod yX3_getsMore, Cond.selects RX3 yX3_getsMore yX3_getsMore, Cond.code yX3_getsMore cX3_getsMore 8 (some .boolean), Cond.fieldLink RX3 22 "PassedDuties$Parts" "through" "[J"]
def wsX6_give : List Cond := .code yX6_give cX6_give 4 (some .int) :: ((wsX6_give_r1 ++ wsX6_give_r2) ++ wsX60 ++ wsX30 ++ wsX00)
def wsX6_leave_r1 : List Cond := [Cond.fieldLink RX6 26 "PassedDuties" "parts" "LPassedDuties$Parts;", Cond.methodLink RX6 100 yX3_has, Cond.instanceMethod yX3_has, Cond.selects RX3 yX3_has yX3_has, Cond.initialized RX3, Cond.code yX3_has cX3_has 2 (some .boolean), Cond.fieldLink RX3 28 "PassedDuties$Parts" "there" "I", Cond.static yX6_isSet, Cond.initialized RX6, Cond.code yX6_isSet cX6_isSet 3 (some .boolean), Cond.methodLink RX6 105 yX3_remove, Cond.instanceMethod yX3_remove, Cond.selects RX3 yX3_remove yX3_remove, Cond.code yX3_remove cX3_remove 4 (some .int), Cond.fieldLink RX3 32 "PassedDuties$Parts" "timesLeft" "I", Cond.methodLink RX3 55 yX3_joinsFrom, Cond.instanceMethod yX3_joinsFrom, Cond.selects RX3 yX3_joinsFrom yX3_joinsFrom, Cond.code yX3_joinsFrom cX3_joinsFrom 4 (some .int), Cond.methodLink RX3 66 yX3_kindOf, Cond.instanceMethod yX3_kindOf, Cond.selects RX3 yX3_kindOf yX3_kindOf, Cond.code yX3_kindOf cX3_kindOf 3 (some .int), Cond.fieldLink RX3 19 "PassedDuties$Parts" "kinds" "[I"]
def wsX6_leave_r2 : List Cond := [Cond.methodLink RX3 59 yX3_joinsTo, Cond.instanceMethod yX3_joinsTo, Cond.selects RX3 yX3_joinsTo yX3_joinsTo, Cond.code yX3_joinsTo cX3_joinsTo 4 (some .int), Cond.methodLink RX3 62 yX3_setJoin, Cond.instanceMethod yX3_setJoin, Cond.selects RX3 yX3_setJoin yX3_setJoin, Cond.code yX3_setJoin cX3_setJoin 4 none, Cond.fieldLink RX3 22 "PassedDuties$Parts" "through" "[J", Cond.methodLink RX3 83 yX4_letThrough, Cond.static yX4_letThrough, Cond.initialized RX4, Cond.code yX4_letThrough cX4_letThrough 1 (some .long), Cond.constantLong RX4 21 (68719476735), Cond.constantLong RX4 13 (-1), Cond.methodLink RX3 52 yX3_settle, Cond.instanceMethod yX3_settle, Cond.selects RX3 yX3_settle yX3_settle, Cond.code yX3_settle cX3_settle 1 none, Cond.fieldLink RX3 35 "PassedDuties$Parts" "changes" "I", Cond.fieldLink RX3 25 "PassedDuties$Parts" "come" "[J", Cond.methodLink RX3 87 yX3_spread, Cond.instanceMethod yX3_spread, Cond.selects RX3 yX3_spread yX3_spread]
def wsX6_leave_r3 : List Cond := [Cond.code yX3_spread cX3_spread 6 none, Cond.fieldLink RX3 15 "PassedDuties$Parts" "own" "[J", Cond.methodLink RX3 79 yX3_getsMore, Cond.instanceMethod yX3_getsMore, Cond.selects RX3 yX3_getsMore yX3_getsMore, Cond.code yX3_getsMore cX3_getsMore 8 (some .boolean)]
def wsX6_leave : List Cond := .code yX6_leave cX6_leave 2 (some .int) :: ((wsX6_leave_r1 ++ (wsX6_leave_r2 ++ wsX6_leave_r3)) ++ wsX60 ++ wsX30)
def wsX6_join_r1 : List Cond := [Cond.fieldLink RX6 26 "PassedDuties" "parts" "LPassedDuties$Parts;", Cond.methodLink RX6 100 yX3_has, Cond.instanceMethod yX3_has, Cond.selects RX3 yX3_has yX3_has, Cond.initialized RX3, Cond.code yX3_has cX3_has 2 (some .boolean), Cond.fieldLink RX3 28 "PassedDuties$Parts" "there" "I", Cond.static yX6_isSet, Cond.initialized RX6, Cond.code yX6_isSet cX6_isSet 3 (some .boolean), Cond.methodLink RX6 108 yX3_kindOf, Cond.instanceMethod yX3_kindOf, Cond.selects RX3 yX3_kindOf yX3_kindOf, Cond.code yX3_kindOf cX3_kindOf 3 (some .int), Cond.fieldLink RX3 19 "PassedDuties$Parts" "kinds" "[I", Cond.methodLink RX6 112 yX3_setKind, Cond.instanceMethod yX3_setKind, Cond.selects RX3 yX3_setKind yX3_setKind, Cond.code yX3_setKind cX3_setKind 4 none, Cond.methodLink RX3 62 yX3_setJoin, Cond.instanceMethod yX3_setJoin, Cond.selects RX3 yX3_setJoin yX3_setJoin, Cond.code yX3_setJoin cX3_setJoin 4 none, Cond.fieldLink RX3 22 "PassedDuties$Parts" "through" "[J"]
def wsX6_join_r2 : List Cond := [Cond.methodLink RX3 83 yX4_letThrough, Cond.static yX4_letThrough, Cond.initialized RX4, Cond.code yX4_letThrough cX4_letThrough 1 (some .long), Cond.constantLong RX4 21 (68719476735), Cond.constantLong RX4 13 (-1), Cond.methodLink RX3 52 yX3_settle, Cond.instanceMethod yX3_settle, Cond.selects RX3 yX3_settle yX3_settle, Cond.code yX3_settle cX3_settle 1 none, Cond.fieldLink RX3 35 "PassedDuties$Parts" "changes" "I", Cond.fieldLink RX3 25 "PassedDuties$Parts" "come" "[J", Cond.methodLink RX3 87 yX3_spread, Cond.instanceMethod yX3_spread, Cond.selects RX3 yX3_spread yX3_spread, Cond.code yX3_spread cX3_spread 6 none, Cond.fieldLink RX3 15 "PassedDuties$Parts" "own" "[J", Cond.methodLink RX3 79 yX3_getsMore, Cond.instanceMethod yX3_getsMore, Cond.selects RX3 yX3_getsMore yX3_getsMore, Cond.code yX3_getsMore cX3_getsMore 8 (some .boolean)]
def wsX6_join : List Cond := .code yX6_join cX6_join 5 (some .int) :: ((wsX6_join_r1 ++ wsX6_join_r2) ++ wsX60 ++ wsX30)
def wsX6_kind : List Cond := .code yX6_kind cX6_kind 3 (some .int) :: ([.fieldLink RX6 26 "PassedDuties" "parts" "LPassedDuties$Parts;", .methodLink RX6 100 yX3_has, .instanceMethod yX3_has, .selects RX3 yX3_has yX3_has, .initialized RX3, .code yX3_has cX3_has 2 (some .boolean), .fieldLink RX3 28 "PassedDuties$Parts" "there" "I", .static yX6_isSet, .initialized RX6, .code yX6_isSet cX6_isSet 3 (some .boolean), .methodLink RX6 108 yX3_kindOf, .instanceMethod yX3_kindOf, .selects RX3 yX3_kindOf yX3_kindOf, .code yX3_kindOf cX3_kindOf 3 (some .int), .fieldLink RX3 19 "PassedDuties$Parts" "kinds" "[I"] ++ wsX60 ++ wsX30)
def wsX6_of_r1 : List Cond := [Cond.fieldLink RX6 26 "PassedDuties" "parts" "LPassedDuties$Parts;", Cond.methodLink RX6 100 yX3_has, Cond.instanceMethod yX3_has, Cond.selects RX3 yX3_has yX3_has, Cond.initialized RX3, Cond.code yX3_has cX3_has 2 (some .boolean), Cond.fieldLink RX3 28 "PassedDuties$Parts" "there" "I", Cond.static yX6_isSet, Cond.initialized RX6, Cond.code yX6_isSet cX6_isSet 3 (some .boolean), Cond.methodLink RX6 119 yX4_duties, Cond.static yX4_duties, Cond.initialized RX4, Cond.code yX4_duties cX4_duties 2 (some .int), Cond.methodLink RX4 15 yX4_itemsIn, Cond.static yX4_itemsIn, Cond.code yX4_itemsIn cX4_itemsIn 2 (some .int), Cond.methodLink RX6 122 yX4_bars, Cond.static yX4_bars, Cond.code yX4_bars cX4_bars 2 (some .int), Cond.methodLink RX6 125 yX4_meeting, Cond.static yX4_meeting, Cond.code yX4_meeting cX4_meeting 3 (some .int), Cond.methodLink RX6 128 yX3_namesOf]
def wsX6_of_r2 : List Cond := [Cond.instanceMethod yX3_namesOf, Cond.selects RX3 yX3_namesOf yX3_namesOf, Cond.code yX3_namesOf cX3_namesOf 5 (some .int), Cond.methodLink RX3 76 yX3_namedBy, Cond.instanceMethod yX3_namedBy, Cond.selects RX3 yX3_namedBy yX3_namedBy, Cond.code yX3_namedBy cX3_namedBy 5 (some .int), Cond.methodLink RX3 66 yX3_kindOf, Cond.instanceMethod yX3_kindOf, Cond.selects RX3 yX3_kindOf yX3_kindOf, Cond.code yX3_kindOf cX3_kindOf 3 (some .int), Cond.fieldLink RX3 19 "PassedDuties$Parts" "kinds" "[I", Cond.methodLink RX6 131 yX3_joinsFrom, Cond.instanceMethod yX3_joinsFrom, Cond.selects RX3 yX3_joinsFrom yX3_joinsFrom, Cond.code yX3_joinsFrom cX3_joinsFrom 4 (some .int), Cond.methodLink RX6 134 yX3_joinsTo, Cond.instanceMethod yX3_joinsTo, Cond.selects RX3 yX3_joinsTo yX3_joinsTo, Cond.code yX3_joinsTo cX3_joinsTo 4 (some .int)]
def wsX6_of : List Cond := .code yX6_of cX6_of 3 (some .int) :: ((wsX6_of_r1 ++ wsX6_of_r2) ++ wsX60 ++ wsX30)
def wsX6_held : List Cond := .code yX6_held cX6_held 3 (some .int) :: ([.fieldLink RX6 26 "PassedDuties" "parts" "LPassedDuties$Parts;", .methodLink RX6 100 yX3_has, .instanceMethod yX3_has, .selects RX3 yX3_has yX3_has, .initialized RX3, .code yX3_has cX3_has 2 (some .boolean), .fieldLink RX3 28 "PassedDuties$Parts" "there" "I", .static yX6_isSet, .initialized RX6, .code yX6_isSet cX6_isSet 3 (some .boolean), .methodLink RX6 73 yX6_isItem, .static yX6_isItem, .code yX6_isItem cX6_isItem 1 (some .boolean), .methodLink RX6 137 yX3_reachHeld, .instanceMethod yX3_reachHeld, .selects RX3 yX3_reachHeld yX3_reachHeld, .code yX3_reachHeld cX3_reachHeld 3 (some .int), .fieldLink RX3 25 "PassedDuties$Parts" "come" "[J", .methodLink RX3 70 yX4_greatest, .static yX4_greatest, .initialized RX4, .code yX4_greatest cX4_greatest 4 (some .int)] ++ wsX60 ++ wsX30)
def wsX6_way_r1 : List Cond := [Cond.fieldLink RX6 26 "PassedDuties" "parts" "LPassedDuties$Parts;", Cond.fieldLink RX6 35 "PassedDuties" "ways" "LPassedDuties$Ways;", Cond.methodLink RX6 100 yX3_has, Cond.instanceMethod yX3_has, Cond.selects RX3 yX3_has yX3_has, Cond.initialized RX3, Cond.code yX3_has cX3_has 2 (some .boolean), Cond.fieldLink RX3 28 "PassedDuties$Parts" "there" "I", Cond.static yX6_isSet, Cond.initialized RX6, Cond.code yX6_isSet cX6_isSet 3 (some .boolean), Cond.methodLink RX6 73 yX6_isItem, Cond.static yX6_isItem, Cond.code yX6_isItem cX6_isItem 1 (some .boolean), Cond.methodLink RX6 140 yX5_partAt, Cond.instanceMethod yX5_partAt, Cond.selects RX5 yX5_partAt yX5_partAt, Cond.initialized RX5, Cond.code yX5_partAt cX5_partAt 7 (some .int), Cond.fieldLink RX5 15 "PassedDuties$Ways" "parts" "LPassedDuties$Parts;", Cond.fieldLink RX5 9 "PassedDuties$Ways" "joinsLeft" "[I", Cond.methodLink RX5 19 yX3_reachHeld, Cond.instanceMethod yX3_reachHeld, Cond.selects RX3 yX3_reachHeld yX3_reachHeld]
def wsX6_way_r2 : List Cond := [Cond.code yX3_reachHeld cX3_reachHeld 3 (some .int), Cond.fieldLink RX3 25 "PassedDuties$Parts" "come" "[J", Cond.methodLink RX3 70 yX4_greatest, Cond.static yX4_greatest, Cond.initialized RX4, Cond.code yX4_greatest cX4_greatest 4 (some .int), Cond.methodLink RX5 25 yX5_measure, Cond.instanceMethod yX5_measure, Cond.selects RX5 yX5_measure yX5_measure, Cond.code yX5_measure cX5_measure 5 none, Cond.methodLink RX5 33 yX3_has, Cond.methodLink RX5 41 yX4_greatest, Cond.methodLink RX5 29 yX5_nearer, Cond.instanceMethod yX5_nearer, Cond.selects RX5 yX5_nearer yX5_nearer, Cond.code yX5_nearer cX5_nearer 5 (some .int), Cond.methodLink RX5 47 yX3_lets, Cond.instanceMethod yX3_lets, Cond.selects RX3 yX3_lets yX3_lets, Cond.code yX3_lets cX3_lets 5 (some .boolean), Cond.methodLink RX3 66 yX3_kindOf, Cond.instanceMethod yX3_kindOf, Cond.selects RX3 yX3_kindOf yX3_kindOf, Cond.code yX3_kindOf cX3_kindOf 3 (some .int)]
def wsX6_way_r3 : List Cond := [Cond.fieldLink RX3 19 "PassedDuties$Parts" "kinds" "[I"]
def wsX6_way : List Cond := .code yX6_way cX6_way 4 (some .int) :: ((wsX6_way_r1 ++ (wsX6_way_r2 ++ wsX6_way_r3)) ++ wsX60 ++ wsX30 ++ wsX50)
def wsX6_clash : List Cond := .code yX6_clash cX6_clash 3 (some .int) :: ([.fieldLink RX6 42 "PassedDuties" "clashes" "LPassedDuties$Clashes;", .methodLink RX6 144 yX1_at, .instanceMethod yX1_at, .selects RX1 yX1_at yX1_at, .initialized RX1, .code yX1_at cX1_at 6 (some .int), .methodLink RX1 41 yX1_now, .instanceMethod yX1_now, .selects RX1 yX1_now yX1_now, .code yX1_now cX1_now 1 (some .long), .fieldLink RX1 22 "PassedDuties$Clashes" "parts" "LPassedDuties$Parts;", .methodLink RX1 31 yX1_meetings, .static yX1_meetings, .code yX1_meetings cX1_meetings 4 (some .long), .methodLink RX1 35 yX4_meeting, .static yX4_meeting, .initialized RX4, .code yX4_meeting cX4_meeting 3 (some .int), .methodLink RX4 15 yX4_itemsIn, .static yX4_itemsIn, .code yX4_itemsIn cX4_itemsIn 2 (some .int), .static yX6_isSet, .initialized RX6, .code yX6_isSet cX6_isSet 3 (some .boolean)] ++ wsX60 ++ wsX10 ++ wsX30)
def wsX6_cause_r1 : List Cond := [Cond.fieldLink RX6 26 "PassedDuties" "parts" "LPassedDuties$Parts;", Cond.fieldLink RX6 42 "PassedDuties" "clashes" "LPassedDuties$Clashes;", Cond.methodLink RX6 100 yX3_has, Cond.instanceMethod yX3_has, Cond.selects RX3 yX3_has yX3_has, Cond.initialized RX3, Cond.code yX3_has cX3_has 2 (some .boolean), Cond.fieldLink RX3 28 "PassedDuties$Parts" "there" "I", Cond.static yX6_isSet, Cond.initialized RX6, Cond.code yX6_isSet cX6_isSet 3 (some .boolean), Cond.methodLink RX6 147 yX1_fewestFor, Cond.instanceMethod yX1_fewestFor, Cond.selects RX1 yX1_fewestFor yX1_fewestFor, Cond.initialized RX1, Cond.code yX1_fewestFor cX1_fewestFor 4 (some .int), Cond.fieldLink RX1 22 "PassedDuties$Clashes" "parts" "LPassedDuties$Parts;", Cond.fieldLink RX1 9 "PassedDuties$Clashes" "bySet" "[J", Cond.methodLink RX1 41 yX1_now, Cond.instanceMethod yX1_now, Cond.selects RX1 yX1_now yX1_now, Cond.code yX1_now cX1_now 1 (some .long), Cond.methodLink RX1 31 yX1_meetings, Cond.static yX1_meetings]
def wsX6_cause_r2 : List Cond := [Cond.code yX1_meetings cX1_meetings 4 (some .long), Cond.methodLink RX1 35 yX4_meeting, Cond.static yX4_meeting, Cond.initialized RX4, Cond.code yX4_meeting cX4_meeting 3 (some .int), Cond.methodLink RX4 15 yX4_itemsIn, Cond.static yX4_itemsIn, Cond.code yX4_itemsIn cX4_itemsIn 2 (some .int), Cond.methodLink RX1 49 yX1_keepAll, Cond.instanceMethod yX1_keepAll, Cond.selects RX1 yX1_keepAll yX1_keepAll, Cond.code yX1_keepAll cX1_keepAll 2 none, Cond.fieldLink RX1 18 "PassedDuties$Clashes" "keptFor" "I", Cond.fieldLink RX1 15 "PassedDuties$Clashes" "rows" "[J", Cond.methodLink RX1 68 yX3_spread, Cond.instanceMethod yX3_spread, Cond.selects RX3 yX3_spread yX3_spread, Cond.code yX3_spread cX3_spread 6 none, Cond.fieldLink RX3 15 "PassedDuties$Parts" "own" "[J", Cond.methodLink RX3 79 yX3_getsMore, Cond.instanceMethod yX3_getsMore, Cond.selects RX3 yX3_getsMore yX3_getsMore, Cond.code yX3_getsMore cX3_getsMore 8 (some .boolean), Cond.fieldLink RX3 22 "PassedDuties$Parts" "through" "[J"]
def wsX6_cause_r3 : List Cond := [Cond.methodLink RX1 55 yX1_isFewer, Cond.instanceMethod yX1_isFewer, Cond.selects RX1 yX1_isFewer yX1_isFewer, Cond.code yX1_isFewer cX1_isFewer 3 (some .boolean), Cond.methodLink RX1 59 yJ6_bitCount_0f7a4, Cond.static yJ6_bitCount_0f7a4, Cond.initialized RJ6, Cond.code yJ6_bitCount_0f7a4 cJ6_bitCount_0f7a4 1 (some .int), Cond.constant RJ6 265 (1431655765), Cond.constant RJ6 266 (858993459), Cond.constant RJ6 267 (252645135)]
def wsX6_cause : List Cond := .code yX6_cause cX6_cause 3 (some .int) :: ((wsX6_cause_r1 ++ (wsX6_cause_r2 ++ wsX6_cause_r3)) ++ wsX60 ++ wsX30 ++ wsX10)
def wsX6_cure_r1 : List Cond := [Cond.fieldLink RX6 42 "PassedDuties" "clashes" "LPassedDuties$Clashes;", Cond.methodLink RX6 150 yX1_fewestToLeave, Cond.instanceMethod yX1_fewestToLeave, Cond.selects RX1 yX1_fewestToLeave yX1_fewestToLeave, Cond.initialized RX1, Cond.code yX1_fewestToLeave cX1_fewestToLeave 3 (some .int), Cond.fieldLink RX1 22 "PassedDuties$Clashes" "parts" "LPassedDuties$Parts;", Cond.fieldLink RX1 9 "PassedDuties$Clashes" "bySet" "[J", Cond.methodLink RX1 41 yX1_now, Cond.instanceMethod yX1_now, Cond.selects RX1 yX1_now yX1_now, Cond.code yX1_now cX1_now 1 (some .long), Cond.methodLink RX1 31 yX1_meetings, Cond.static yX1_meetings, Cond.code yX1_meetings cX1_meetings 4 (some .long), Cond.methodLink RX1 35 yX4_meeting, Cond.static yX4_meeting, Cond.initialized RX4, Cond.code yX4_meeting cX4_meeting 3 (some .int), Cond.methodLink RX4 15 yX4_itemsIn, Cond.static yX4_itemsIn, Cond.code yX4_itemsIn cX4_itemsIn 2 (some .int), Cond.methodLink RX1 49 yX1_keepAll, Cond.instanceMethod yX1_keepAll]
def wsX6_cure_r2 : List Cond := [Cond.selects RX1 yX1_keepAll yX1_keepAll, Cond.code yX1_keepAll cX1_keepAll 2 none, Cond.fieldLink RX1 18 "PassedDuties$Clashes" "keptFor" "I", Cond.fieldLink RX1 15 "PassedDuties$Clashes" "rows" "[J", Cond.methodLink RX1 68 yX3_spread, Cond.instanceMethod yX3_spread, Cond.selects RX3 yX3_spread yX3_spread, Cond.initialized RX3, Cond.code yX3_spread cX3_spread 6 none, Cond.fieldLink RX3 15 "PassedDuties$Parts" "own" "[J", Cond.static yX6_isSet, Cond.initialized RX6, Cond.code yX6_isSet cX6_isSet 3 (some .boolean), Cond.methodLink RX3 79 yX3_getsMore, Cond.instanceMethod yX3_getsMore, Cond.selects RX3 yX3_getsMore yX3_getsMore, Cond.code yX3_getsMore cX3_getsMore 8 (some .boolean), Cond.fieldLink RX3 22 "PassedDuties$Parts" "through" "[J", Cond.methodLink RX1 55 yX1_isFewer, Cond.instanceMethod yX1_isFewer, Cond.selects RX1 yX1_isFewer yX1_isFewer, Cond.code yX1_isFewer cX1_isFewer 3 (some .boolean), Cond.methodLink RX1 59 yJ6_bitCount_0f7a4, Cond.static yJ6_bitCount_0f7a4]
def wsX6_cure_r3 : List Cond := [Cond.initialized RJ6, Cond.code yJ6_bitCount_0f7a4 cJ6_bitCount_0f7a4 1 (some .int), Cond.constant RJ6 265 (1431655765), Cond.constant RJ6 266 (858993459), Cond.constant RJ6 267 (252645135)]
def wsX6_cure : List Cond := .code yX6_cure cX6_cure 1 (some .int) :: ((wsX6_cure_r1 ++ (wsX6_cure_r2 ++ wsX6_cure_r3)) ++ wsX60 ++ wsX10 ++ wsX30)
def wsJ13_bitCount_95d88 : List Cond := .code yJ13_bitCount_95d88 cJ13_bitCount_95d88 2 (some .int) :: ([.constantLong RJ13 314 (6148914691236517205), .constantLong RJ13 316 (3689348814741910323), .constantLong RJ13 318 (1085102592571150095)])
def wsX6_count_r1 : List Cond := [Cond.fieldLink RX6 12 "PassedDuties" "page" "LPassedDuties$Page;", Cond.fieldLink RX6 19 "PassedDuties" "book" "LPassedDuties$Book;", Cond.fieldLink RX6 26 "PassedDuties" "parts" "LPassedDuties$Parts;", Cond.fieldLink RX6 42 "PassedDuties" "clashes" "LPassedDuties$Clashes;", Cond.methodLink RX6 159 yJ6_bitCount_0f7a4, Cond.static yJ6_bitCount_0f7a4, Cond.initialized RJ6, Cond.code yJ6_bitCount_0f7a4 cJ6_bitCount_0f7a4 1 (some .int), Cond.constant RJ6 265 (1431655765), Cond.constant RJ6 266 (858993459), Cond.constant RJ6 267 (252645135), Cond.methodLink RX6 164 yX3_joins, Cond.instanceMethod yX3_joins, Cond.selects RX3 yX3_joins yX3_joins, Cond.initialized RX3, Cond.code yX3_joins cX3_joins 3 (some .int), Cond.methodLink RX3 55 yX3_joinsFrom, Cond.instanceMethod yX3_joinsFrom, Cond.selects RX3 yX3_joinsFrom yX3_joinsFrom, Cond.code yX3_joinsFrom cX3_joinsFrom 4 (some .int), Cond.methodLink RX3 66 yX3_kindOf, Cond.instanceMethod yX3_kindOf, Cond.selects RX3 yX3_kindOf yX3_kindOf, Cond.code yX3_kindOf cX3_kindOf 3 (some .int)]
def wsX6_count_r2 : List Cond := [Cond.fieldLink RX3 19 "PassedDuties$Parts" "kinds" "[I", Cond.methodLink RX6 167 yX1_now, Cond.instanceMethod yX1_now, Cond.selects RX1 yX1_now yX1_now, Cond.initialized RX1, Cond.code yX1_now cX1_now 1 (some .long), Cond.fieldLink RX1 22 "PassedDuties$Clashes" "parts" "LPassedDuties$Parts;", Cond.methodLink RX1 31 yX1_meetings, Cond.static yX1_meetings, Cond.code yX1_meetings cX1_meetings 4 (some .long), Cond.methodLink RX1 35 yX4_meeting, Cond.static yX4_meeting, Cond.initialized RX4, Cond.code yX4_meeting cX4_meeting 3 (some .int), Cond.methodLink RX4 15 yX4_itemsIn, Cond.static yX4_itemsIn, Cond.code yX4_itemsIn cX4_itemsIn 2 (some .int), Cond.methodLink RX6 170 yJ13_bitCount_95d88, Cond.static yJ13_bitCount_95d88, Cond.initialized RJ13, Cond.code yJ13_bitCount_95d88 cJ13_bitCount_95d88 2 (some .int), Cond.constantLong RJ13 314 (6148914691236517205), Cond.constantLong RJ13 316 (3689348814741910323), Cond.constantLong RJ13 318 (1085102592571150095)]
def wsX6_count_r3 : List Cond := [Cond.methodLink RX6 174 yX1_partsNow, Cond.instanceMethod yX1_partsNow, Cond.selects RX1 yX1_partsNow yX1_partsNow, Cond.code yX1_partsNow cX1_partsNow 3 (some .int)]
def wsX6_count : List Cond := .code yX6_count cX6_count 2 (some .int) :: ((wsX6_count_r1 ++ (wsX6_count_r2 ++ wsX6_count_r3)) ++ wsX60 ++ wsX20 ++ wsX00 ++ wsX30 ++ wsX10)
def wsX6_mix : List Cond := .code yX6_mix cX6_mix 4 (some .long) :: ([.constantLong RX6 222 (31)])
def wsX6_withTerms_r1 : List Cond := [Cond.fieldLink RX6 19 "PassedDuties" "book" "LPassedDuties$Book;", Cond.methodLink RX6 206 yX6_reach, Cond.instanceMethod yX6_reach, Cond.selects RX6 yX6_reach yX6_reach, Cond.initialized RX6, Cond.code yX6_reach cX6_reach 3 (some .int), Cond.methodLink RX6 69 yX0_has, Cond.instanceMethod yX0_has, Cond.selects RX0 yX0_has yX0_has, Cond.initialized RX0, Cond.code yX0_has cX0_has 2 (some .boolean), Cond.fieldLink RX0 15 "PassedDuties$Book" "size" "I", Cond.methodLink RX6 73 yX6_isItem, Cond.static yX6_isItem, Cond.code yX6_isItem cX6_isItem 1 (some .boolean), Cond.methodLink RX6 80 yX4_greatest, Cond.static yX4_greatest, Cond.initialized RX4, Cond.code yX4_greatest cX4_greatest 4 (some .int), Cond.static yX6_isSet, Cond.code yX6_isSet cX6_isSet 3 (some .boolean), Cond.methodLink RX6 196 yX6_mix, Cond.static yX6_mix, Cond.code yX6_mix cX6_mix 4 (some .long)]
def wsX6_withTerms_r2 : List Cond := [Cond.constantLong RX6 222 (31)]
def wsX6_withTerms : List Cond := .code yX6_withTerms cX6_withTerms 7 (some .long) :: ((wsX6_withTerms_r1 ++ wsX6_withTerms_r2) ++ wsX60 ++ wsX00)
def wsX6_withPart_r1 : List Cond := [Cond.fieldLink RX6 26 "PassedDuties" "parts" "LPassedDuties$Parts;", Cond.methodLink RX6 196 yX6_mix, Cond.static yX6_mix, Cond.initialized RX6, Cond.code yX6_mix cX6_mix 4 (some .long), Cond.constantLong RX6 222 (31), Cond.methodLink RX6 209 yX6_of, Cond.instanceMethod yX6_of, Cond.selects RX6 yX6_of yX6_of, Cond.code yX6_of cX6_of 3 (some .int), Cond.methodLink RX6 100 yX3_has, Cond.instanceMethod yX3_has, Cond.selects RX3 yX3_has yX3_has, Cond.initialized RX3, Cond.code yX3_has cX3_has 2 (some .boolean), Cond.fieldLink RX3 28 "PassedDuties$Parts" "there" "I", Cond.static yX6_isSet, Cond.code yX6_isSet cX6_isSet 3 (some .boolean), Cond.methodLink RX6 119 yX4_duties, Cond.static yX4_duties, Cond.initialized RX4, Cond.code yX4_duties cX4_duties 2 (some .int), Cond.methodLink RX4 15 yX4_itemsIn, Cond.static yX4_itemsIn]
def wsX6_withPart_r2 : List Cond := [Cond.code yX4_itemsIn cX4_itemsIn 2 (some .int), Cond.methodLink RX6 122 yX4_bars, Cond.static yX4_bars, Cond.code yX4_bars cX4_bars 2 (some .int), Cond.methodLink RX6 125 yX4_meeting, Cond.static yX4_meeting, Cond.code yX4_meeting cX4_meeting 3 (some .int), Cond.methodLink RX6 128 yX3_namesOf, Cond.instanceMethod yX3_namesOf, Cond.selects RX3 yX3_namesOf yX3_namesOf, Cond.code yX3_namesOf cX3_namesOf 5 (some .int), Cond.methodLink RX3 76 yX3_namedBy, Cond.instanceMethod yX3_namedBy, Cond.selects RX3 yX3_namedBy yX3_namedBy, Cond.code yX3_namedBy cX3_namedBy 5 (some .int), Cond.methodLink RX3 66 yX3_kindOf, Cond.instanceMethod yX3_kindOf, Cond.selects RX3 yX3_kindOf yX3_kindOf, Cond.code yX3_kindOf cX3_kindOf 3 (some .int), Cond.fieldLink RX3 19 "PassedDuties$Parts" "kinds" "[I", Cond.methodLink RX6 131 yX3_joinsFrom, Cond.instanceMethod yX3_joinsFrom, Cond.selects RX3 yX3_joinsFrom yX3_joinsFrom, Cond.code yX3_joinsFrom cX3_joinsFrom 4 (some .int)]
def wsX6_withPart_r3 : List Cond := [Cond.methodLink RX6 134 yX3_joinsTo, Cond.instanceMethod yX3_joinsTo, Cond.selects RX3 yX3_joinsTo yX3_joinsTo, Cond.code yX3_joinsTo cX3_joinsTo 4 (some .int), Cond.methodLink RX6 212 yX6_held, Cond.instanceMethod yX6_held, Cond.selects RX6 yX6_held yX6_held, Cond.code yX6_held cX6_held 3 (some .int), Cond.methodLink RX6 73 yX6_isItem, Cond.static yX6_isItem, Cond.code yX6_isItem cX6_isItem 1 (some .boolean), Cond.methodLink RX6 137 yX3_reachHeld, Cond.instanceMethod yX3_reachHeld, Cond.selects RX3 yX3_reachHeld yX3_reachHeld, Cond.code yX3_reachHeld cX3_reachHeld 3 (some .int), Cond.fieldLink RX3 25 "PassedDuties$Parts" "come" "[J", Cond.methodLink RX3 70 yX4_greatest, Cond.static yX4_greatest, Cond.code yX4_greatest cX4_greatest 4 (some .int), Cond.methodLink RX6 215 yX6_kind, Cond.instanceMethod yX6_kind, Cond.selects RX6 yX6_kind yX6_kind, Cond.code yX6_kind cX6_kind 3 (some .int), Cond.methodLink RX6 108 yX3_kindOf]
def wsX6_withPart : List Cond := .code yX6_withPart cX6_withPart 7 (some .long) :: ((wsX6_withPart_r1 ++ (wsX6_withPart_r2 ++ wsX6_withPart_r3)) ++ wsX60 ++ wsX30)
def wsX6_withClashes_r1 : List Cond := [Cond.fieldLink RX6 42 "PassedDuties" "clashes" "LPassedDuties$Clashes;", Cond.methodLink RX6 167 yX1_now, Cond.instanceMethod yX1_now, Cond.selects RX1 yX1_now yX1_now, Cond.initialized RX1, Cond.code yX1_now cX1_now 1 (some .long), Cond.fieldLink RX1 22 "PassedDuties$Clashes" "parts" "LPassedDuties$Parts;", Cond.methodLink RX1 31 yX1_meetings, Cond.static yX1_meetings, Cond.code yX1_meetings cX1_meetings 4 (some .long), Cond.methodLink RX1 35 yX4_meeting, Cond.static yX4_meeting, Cond.initialized RX4, Cond.code yX4_meeting cX4_meeting 3 (some .int), Cond.methodLink RX4 15 yX4_itemsIn, Cond.static yX4_itemsIn, Cond.code yX4_itemsIn cX4_itemsIn 2 (some .int), Cond.methodLink RX6 218 yX6_isSet, Cond.static yX6_isSet, Cond.initialized RX6, Cond.code yX6_isSet cX6_isSet 3 (some .boolean), Cond.methodLink RX6 196 yX6_mix, Cond.static yX6_mix, Cond.code yX6_mix cX6_mix 4 (some .long)]
def wsX6_withClashes_r2 : List Cond := [Cond.constantLong RX6 222 (31), Cond.methodLink RX6 147 yX1_fewestFor, Cond.instanceMethod yX1_fewestFor, Cond.selects RX1 yX1_fewestFor yX1_fewestFor, Cond.code yX1_fewestFor cX1_fewestFor 4 (some .int), Cond.fieldLink RX1 9 "PassedDuties$Clashes" "bySet" "[J", Cond.methodLink RX1 41 yX1_now, Cond.methodLink RX1 49 yX1_keepAll, Cond.instanceMethod yX1_keepAll, Cond.selects RX1 yX1_keepAll yX1_keepAll, Cond.code yX1_keepAll cX1_keepAll 2 none, Cond.fieldLink RX1 18 "PassedDuties$Clashes" "keptFor" "I", Cond.fieldLink RX1 15 "PassedDuties$Clashes" "rows" "[J", Cond.methodLink RX1 68 yX3_spread, Cond.instanceMethod yX3_spread, Cond.selects RX3 yX3_spread yX3_spread, Cond.initialized RX3, Cond.code yX3_spread cX3_spread 6 none, Cond.fieldLink RX3 15 "PassedDuties$Parts" "own" "[J", Cond.methodLink RX3 79 yX3_getsMore, Cond.instanceMethod yX3_getsMore, Cond.selects RX3 yX3_getsMore yX3_getsMore, Cond.code yX3_getsMore cX3_getsMore 8 (some .boolean), Cond.fieldLink RX3 22 "PassedDuties$Parts" "through" "[J"]
def wsX6_withClashes_r3 : List Cond := [Cond.methodLink RX1 55 yX1_isFewer, Cond.instanceMethod yX1_isFewer, Cond.selects RX1 yX1_isFewer yX1_isFewer, Cond.code yX1_isFewer cX1_isFewer 3 (some .boolean), Cond.methodLink RX1 59 yJ6_bitCount_0f7a4, Cond.static yJ6_bitCount_0f7a4, Cond.initialized RJ6, Cond.code yJ6_bitCount_0f7a4 cJ6_bitCount_0f7a4 1 (some .int), Cond.constant RJ6 265 (1431655765), Cond.constant RJ6 266 (858993459), Cond.constant RJ6 267 (252645135)]
def wsX6_withClashes : List Cond := .code yX6_withClashes cX6_withClashes 8 (some .long) :: ((wsX6_withClashes_r1 ++ (wsX6_withClashes_r2 ++ wsX6_withClashes_r3)) ++ wsX60 ++ wsX10 ++ wsX30)
def wsX6_digest_r1 : List Cond := [Cond.constantLong RX6 180 (1697), Cond.fieldLink RX6 26 "PassedDuties" "parts" "LPassedDuties$Parts;", Cond.fieldLink RX6 12 "PassedDuties" "page" "LPassedDuties$Page;", Cond.methodLink RX6 182 yX6_withTerms, Cond.instanceMethod yX6_withTerms, Cond.selects RX6 yX6_withTerms yX6_withTerms, Cond.initialized RX6, Cond.code yX6_withTerms cX6_withTerms 7 (some .long), Cond.fieldLink RX6 19 "PassedDuties" "book" "LPassedDuties$Book;", Cond.methodLink RX6 206 yX6_reach, Cond.instanceMethod yX6_reach, Cond.selects RX6 yX6_reach yX6_reach, Cond.code yX6_reach cX6_reach 3 (some .int), Cond.methodLink RX6 69 yX0_has, Cond.instanceMethod yX0_has, Cond.selects RX0 yX0_has yX0_has, Cond.initialized RX0, Cond.code yX0_has cX0_has 2 (some .boolean), Cond.fieldLink RX0 15 "PassedDuties$Book" "size" "I", Cond.methodLink RX6 73 yX6_isItem, Cond.static yX6_isItem, Cond.code yX6_isItem cX6_isItem 1 (some .boolean), Cond.methodLink RX6 80 yX4_greatest, Cond.static yX4_greatest]
def wsX6_digest_r2 : List Cond := [Cond.initialized RX4, Cond.code yX4_greatest cX4_greatest 4 (some .int), Cond.static yX6_isSet, Cond.code yX6_isSet cX6_isSet 3 (some .boolean), Cond.methodLink RX6 196 yX6_mix, Cond.static yX6_mix, Cond.code yX6_mix cX6_mix 4 (some .long), Cond.constantLong RX6 222 (31), Cond.methodLink RX6 100 yX3_has, Cond.instanceMethod yX3_has, Cond.selects RX3 yX3_has yX3_has, Cond.initialized RX3, Cond.code yX3_has cX3_has 2 (some .boolean), Cond.fieldLink RX3 28 "PassedDuties$Parts" "there" "I", Cond.methodLink RX6 186 yX6_withPart, Cond.instanceMethod yX6_withPart, Cond.selects RX6 yX6_withPart yX6_withPart, Cond.code yX6_withPart cX6_withPart 7 (some .long), Cond.methodLink RX6 209 yX6_of, Cond.instanceMethod yX6_of, Cond.selects RX6 yX6_of yX6_of, Cond.code yX6_of cX6_of 3 (some .int), Cond.methodLink RX6 119 yX4_duties, Cond.static yX4_duties]
def wsX6_digest_r3 : List Cond := [Cond.code yX4_duties cX4_duties 2 (some .int), Cond.methodLink RX4 15 yX4_itemsIn, Cond.static yX4_itemsIn, Cond.code yX4_itemsIn cX4_itemsIn 2 (some .int), Cond.methodLink RX6 122 yX4_bars, Cond.static yX4_bars, Cond.code yX4_bars cX4_bars 2 (some .int), Cond.methodLink RX6 125 yX4_meeting, Cond.static yX4_meeting, Cond.code yX4_meeting cX4_meeting 3 (some .int), Cond.methodLink RX6 128 yX3_namesOf, Cond.instanceMethod yX3_namesOf, Cond.selects RX3 yX3_namesOf yX3_namesOf, Cond.code yX3_namesOf cX3_namesOf 5 (some .int), Cond.methodLink RX3 76 yX3_namedBy, Cond.instanceMethod yX3_namedBy, Cond.selects RX3 yX3_namedBy yX3_namedBy, Cond.code yX3_namedBy cX3_namedBy 5 (some .int), Cond.methodLink RX3 66 yX3_kindOf, Cond.instanceMethod yX3_kindOf, Cond.selects RX3 yX3_kindOf yX3_kindOf, Cond.code yX3_kindOf cX3_kindOf 3 (some .int), Cond.fieldLink RX3 19 "PassedDuties$Parts" "kinds" "[I", Cond.methodLink RX6 131 yX3_joinsFrom]
def wsX6_digest_r4 : List Cond := [Cond.instanceMethod yX3_joinsFrom, Cond.selects RX3 yX3_joinsFrom yX3_joinsFrom, Cond.code yX3_joinsFrom cX3_joinsFrom 4 (some .int), Cond.methodLink RX6 134 yX3_joinsTo, Cond.instanceMethod yX3_joinsTo, Cond.selects RX3 yX3_joinsTo yX3_joinsTo, Cond.code yX3_joinsTo cX3_joinsTo 4 (some .int), Cond.methodLink RX6 212 yX6_held, Cond.instanceMethod yX6_held, Cond.selects RX6 yX6_held yX6_held, Cond.code yX6_held cX6_held 3 (some .int), Cond.methodLink RX6 137 yX3_reachHeld, Cond.instanceMethod yX3_reachHeld, Cond.selects RX3 yX3_reachHeld yX3_reachHeld, Cond.code yX3_reachHeld cX3_reachHeld 3 (some .int), Cond.fieldLink RX3 25 "PassedDuties$Parts" "come" "[J", Cond.methodLink RX3 70 yX4_greatest, Cond.methodLink RX6 215 yX6_kind, Cond.instanceMethod yX6_kind, Cond.selects RX6 yX6_kind yX6_kind, Cond.code yX6_kind cX6_kind 3 (some .int), Cond.methodLink RX6 108 yX3_kindOf, Cond.methodLink RX6 190 yX6_withClashes, Cond.instanceMethod yX6_withClashes]
def wsX6_digest_r5 : List Cond := [Cond.selects RX6 yX6_withClashes yX6_withClashes, Cond.code yX6_withClashes cX6_withClashes 8 (some .long), Cond.fieldLink RX6 42 "PassedDuties" "clashes" "LPassedDuties$Clashes;", Cond.methodLink RX6 167 yX1_now, Cond.instanceMethod yX1_now, Cond.selects RX1 yX1_now yX1_now, Cond.initialized RX1, Cond.code yX1_now cX1_now 1 (some .long), Cond.fieldLink RX1 22 "PassedDuties$Clashes" "parts" "LPassedDuties$Parts;", Cond.methodLink RX1 31 yX1_meetings, Cond.static yX1_meetings, Cond.code yX1_meetings cX1_meetings 4 (some .long), Cond.methodLink RX1 35 yX4_meeting, Cond.methodLink RX6 218 yX6_isSet, Cond.methodLink RX6 147 yX1_fewestFor, Cond.instanceMethod yX1_fewestFor, Cond.selects RX1 yX1_fewestFor yX1_fewestFor, Cond.code yX1_fewestFor cX1_fewestFor 4 (some .int), Cond.fieldLink RX1 9 "PassedDuties$Clashes" "bySet" "[J", Cond.methodLink RX1 41 yX1_now, Cond.methodLink RX1 49 yX1_keepAll, Cond.instanceMethod yX1_keepAll, Cond.selects RX1 yX1_keepAll yX1_keepAll, Cond.code yX1_keepAll cX1_keepAll 2 none]
def wsX6_digest_r6 : List Cond := [Cond.fieldLink RX1 18 "PassedDuties$Clashes" "keptFor" "I", Cond.fieldLink RX1 15 "PassedDuties$Clashes" "rows" "[J", Cond.methodLink RX1 68 yX3_spread, Cond.instanceMethod yX3_spread, Cond.selects RX3 yX3_spread yX3_spread, Cond.code yX3_spread cX3_spread 6 none, Cond.fieldLink RX3 15 "PassedDuties$Parts" "own" "[J", Cond.methodLink RX3 79 yX3_getsMore, Cond.instanceMethod yX3_getsMore, Cond.selects RX3 yX3_getsMore yX3_getsMore, Cond.code yX3_getsMore cX3_getsMore 8 (some .boolean), Cond.fieldLink RX3 22 "PassedDuties$Parts" "through" "[J", Cond.methodLink RX1 55 yX1_isFewer, Cond.instanceMethod yX1_isFewer, Cond.selects RX1 yX1_isFewer yX1_isFewer, Cond.code yX1_isFewer cX1_isFewer 3 (some .boolean), Cond.methodLink RX1 59 yJ6_bitCount_0f7a4, Cond.static yJ6_bitCount_0f7a4, Cond.initialized RJ6, Cond.code yJ6_bitCount_0f7a4 cJ6_bitCount_0f7a4 1 (some .int), Cond.constant RJ6 265 (1431655765), Cond.constant RJ6 266 (858993459), Cond.constant RJ6 267 (252645135), Cond.methodLink RX6 193 yX6_cure]
def wsX6_digest_r7 : List Cond := [Cond.instanceMethod yX6_cure, Cond.selects RX6 yX6_cure yX6_cure, Cond.code yX6_cure cX6_cure 1 (some .int), Cond.methodLink RX6 150 yX1_fewestToLeave, Cond.instanceMethod yX1_fewestToLeave, Cond.selects RX1 yX1_fewestToLeave yX1_fewestToLeave, Cond.code yX1_fewestToLeave cX1_fewestToLeave 3 (some .int), Cond.methodLink RX6 203 yX6_count, Cond.instanceMethod yX6_count, Cond.selects RX6 yX6_count yX6_count, Cond.code yX6_count cX6_count 2 (some .int), Cond.methodLink RX6 159 yJ6_bitCount_0f7a4, Cond.methodLink RX6 164 yX3_joins, Cond.instanceMethod yX3_joins, Cond.selects RX3 yX3_joins yX3_joins, Cond.code yX3_joins cX3_joins 3 (some .int), Cond.methodLink RX3 55 yX3_joinsFrom, Cond.methodLink RX6 170 yJ13_bitCount_95d88, Cond.static yJ13_bitCount_95d88, Cond.initialized RJ13, Cond.code yJ13_bitCount_95d88 cJ13_bitCount_95d88 2 (some .int), Cond.constantLong RJ13 314 (6148914691236517205), Cond.constantLong RJ13 316 (3689348814741910323), Cond.constantLong RJ13 318 (1085102592571150095)]
def wsX6_digest_r8 : List Cond := [Cond.methodLink RX6 174 yX1_partsNow, Cond.instanceMethod yX1_partsNow, Cond.selects RX1 yX1_partsNow yX1_partsNow, Cond.code yX1_partsNow cX1_partsNow 3 (some .int)]
def wsX6_digest : List Cond := .code yX6_digest cX6_digest 4 (some .long) :: ((wsX6_digest_r1 ++ (wsX6_digest_r2 ++ (wsX6_digest_r3 ++ (wsX6_digest_r4 ++ (wsX6_digest_r5 ++ (wsX6_digest_r6 ++ (wsX6_digest_r7 ++ wsX6_digest_r8))))))) ++ wsX60 ++ wsX20 ++ wsX00 ++ wsX30 ++ wsX10)
def wsX7_init : List Cond := .code yX7_init cX7_init 1 none :: ([.methodLink RX7 1 objectInit, .instanceMethod objectInit, .code objectInit ⟨#[0xb1]⟩ 1 none, .arrayClass .int, .fieldLink RX7 7 "PassedDutiesModel" "page" "[I", .fieldLink RX7 13 "PassedDutiesModel" "reaches" "[I", .fieldLink RX7 16 "PassedDutiesModel" "termsOf" "[I", .fieldLink RX7 19 "PassedDutiesModel" "kinds" "[I", .fieldLink RX7 22 "PassedDutiesModel" "wayAt" "[I", .fieldLink RX7 25 "PassedDutiesModel" "far" "[I", .fieldLink RX7 28 "PassedDutiesModel" "clashAt" "[I"] ++ wsX70)
def wsX7_within : List Cond := .code yX7_within cX7_within 3 (some .boolean) :: ([])
def wsX7_has : List Cond := .code yX7_has cX7_has 2 (some .boolean) :: ([])
def wsX7_ones : List Cond := .code yX7_ones cX7_ones 3 (some .int) :: ([])
def wsX7_letter : List Cond := .code yX7_letter cX7_letter 2 (some .int) :: ([.fieldLink RX7 35 "PassedDutiesModel" "pageLength" "I", .fieldLink RX7 7 "PassedDutiesModel" "page" "[I", .methodLink RX7 31 yX7_within, .static yX7_within, .initialized RX7, .code yX7_within cX7_within 3 (some .boolean)] ++ wsX70)
def wsX7_blank : List Cond := .code yX7_blank cX7_blank 2 (some .int) :: ([.fieldLink RX7 35 "PassedDutiesModel" "pageLength" "I"] ++ wsX70)
def wsX7_itemOf : List Cond := .code yX7_itemOf cX7_itemOf 1 (some .int) :: ([.methodLink RX7 31 yX7_within, .static yX7_within, .initialized RX7, .code yX7_within cX7_within 3 (some .boolean)])
def wsX7_readPage : List Cond := .code yX7_readPage cX7_readPage 6 (some .int) :: ([.fieldLink RX7 13 "PassedDutiesModel" "reaches" "[I", .fieldLink RX7 35 "PassedDutiesModel" "pageLength" "I", .fieldLink RX7 7 "PassedDutiesModel" "page" "[I", .methodLink RX7 39 yX7_itemOf, .static yX7_itemOf, .initialized RX7, .code yX7_itemOf cX7_itemOf 1 (some .int), .methodLink RX7 31 yX7_within, .static yX7_within, .code yX7_within cX7_within 3 (some .boolean)] ++ wsX70)
def wsX7_fault : List Cond := .code yX7_fault cX7_fault 1 (some .int) :: ([.methodLink RX7 43 yX7_readPage, .instanceMethod yX7_readPage, .selects RX7 yX7_readPage yX7_readPage, .initialized RX7, .code yX7_readPage cX7_readPage 6 (some .int), .fieldLink RX7 13 "PassedDutiesModel" "reaches" "[I", .fieldLink RX7 35 "PassedDutiesModel" "pageLength" "I", .fieldLink RX7 7 "PassedDutiesModel" "page" "[I", .methodLink RX7 39 yX7_itemOf, .static yX7_itemOf, .code yX7_itemOf cX7_itemOf 1 (some .int), .methodLink RX7 31 yX7_within, .static yX7_within, .code yX7_within cX7_within 3 (some .boolean)] ++ wsX70)
def wsX7_likeRead : List Cond := .code yX7_likeRead cX7_likeRead 5 (some .int) :: ([.fieldLink RX7 47 "PassedDutiesModel" "termsMany" "I", .fieldLink RX7 13 "PassedDutiesModel" "reaches" "[I"] ++ wsX70)
def wsX7_terms : List Cond := .code yX7_terms cX7_terms 3 (some .int) :: ([.fieldLink RX7 35 "PassedDutiesModel" "pageLength" "I", .fieldLink RX7 47 "PassedDutiesModel" "termsMany" "I", .fieldLink RX7 13 "PassedDutiesModel" "reaches" "[I", .methodLink RX7 43 yX7_readPage, .instanceMethod yX7_readPage, .selects RX7 yX7_readPage yX7_readPage, .initialized RX7, .code yX7_readPage cX7_readPage 6 (some .int), .fieldLink RX7 7 "PassedDutiesModel" "page" "[I", .methodLink RX7 39 yX7_itemOf, .static yX7_itemOf, .code yX7_itemOf cX7_itemOf 1 (some .int), .methodLink RX7 31 yX7_within, .static yX7_within, .code yX7_within cX7_within 3 (some .boolean), .methodLink RX7 50 yX7_likeRead, .instanceMethod yX7_likeRead, .selects RX7 yX7_likeRead yX7_likeRead, .code yX7_likeRead cX7_likeRead 5 (some .int)] ++ wsX70)
def wsX7_isTerms : List Cond := .code yX7_isTerms cX7_isTerms 2 (some .boolean) :: ([.fieldLink RX7 47 "PassedDutiesModel" "termsMany" "I", .methodLink RX7 31 yX7_within, .static yX7_within, .initialized RX7, .code yX7_within cX7_within 3 (some .boolean)] ++ wsX70)
def wsX7_reach : List Cond := .code yX7_reach cX7_reach 3 (some .int) :: ([.fieldLink RX7 13 "PassedDutiesModel" "reaches" "[I", .methodLink RX7 53 yX7_isTerms, .instanceMethod yX7_isTerms, .selects RX7 yX7_isTerms yX7_isTerms, .initialized RX7, .code yX7_isTerms cX7_isTerms 2 (some .boolean), .fieldLink RX7 47 "PassedDutiesModel" "termsMany" "I", .methodLink RX7 31 yX7_within, .static yX7_within, .code yX7_within cX7_within 3 (some .boolean)] ++ wsX70)
def wsX7_isLooser : List Cond := .code yX7_isLooser cX7_isLooser 5 (some .boolean) :: ([.fieldLink RX7 13 "PassedDutiesModel" "reaches" "[I"] ++ wsX70)
def wsX7_puts : List Cond := .code yX7_puts cX7_puts 7 (some .int) :: ([.fieldLink RX7 13 "PassedDutiesModel" "reaches" "[I", .methodLink RX7 50 yX7_likeRead, .instanceMethod yX7_likeRead, .selects RX7 yX7_likeRead yX7_likeRead, .initialized RX7, .code yX7_likeRead cX7_likeRead 5 (some .int), .fieldLink RX7 47 "PassedDutiesModel" "termsMany" "I"] ++ wsX70)
def wsX7_two : List Cond := .code yX7_two cX7_two 4 (some .int) :: ([.methodLink RX7 53 yX7_isTerms, .instanceMethod yX7_isTerms, .selects RX7 yX7_isTerms yX7_isTerms, .initialized RX7, .code yX7_isTerms cX7_isTerms 2 (some .boolean), .fieldLink RX7 47 "PassedDutiesModel" "termsMany" "I", .methodLink RX7 31 yX7_within, .static yX7_within, .code yX7_within cX7_within 3 (some .boolean), .methodLink RX7 57 yX7_isLooser, .instanceMethod yX7_isLooser, .selects RX7 yX7_isLooser yX7_isLooser, .code yX7_isLooser cX7_isLooser 5 (some .boolean), .fieldLink RX7 13 "PassedDutiesModel" "reaches" "[I", .methodLink RX7 61 yX7_puts, .instanceMethod yX7_puts, .selects RX7 yX7_puts yX7_puts, .code yX7_puts cX7_puts 7 (some .int), .methodLink RX7 50 yX7_likeRead, .instanceMethod yX7_likeRead, .selects RX7 yX7_likeRead yX7_likeRead, .code yX7_likeRead cX7_likeRead 5 (some .int)] ++ wsX70)
def wsX7_isPart : List Cond := .code yX7_isPart cX7_isPart 2 (some .boolean) :: ([.fieldLink RX7 65 "PassedDutiesModel" "there" "I", .methodLink RX7 31 yX7_within, .static yX7_within, .initialized RX7, .code yX7_within cX7_within 3 (some .boolean), .methodLink RX7 68 yX7_has, .static yX7_has, .code yX7_has cX7_has 2 (some .boolean)] ++ wsX70)
def wsX7_part : List Cond := .code yX7_part cX7_part 4 (some .int) :: ([.fieldLink RX7 65 "PassedDutiesModel" "there" "I", .fieldLink RX7 16 "PassedDutiesModel" "termsOf" "[I", .fieldLink RX7 19 "PassedDutiesModel" "kinds" "[I", .methodLink RX7 53 yX7_isTerms, .instanceMethod yX7_isTerms, .selects RX7 yX7_isTerms yX7_isTerms, .initialized RX7, .code yX7_isTerms cX7_isTerms 2 (some .boolean), .fieldLink RX7 47 "PassedDutiesModel" "termsMany" "I", .methodLink RX7 31 yX7_within, .static yX7_within, .code yX7_within cX7_within 3 (some .boolean), .methodLink RX7 68 yX7_has, .static yX7_has, .code yX7_has cX7_has 2 (some .boolean)] ++ wsX70)
def wsX7_give : List Cond := .code yX7_give cX7_give 4 (some .int) :: ([.fieldLink RX7 16 "PassedDutiesModel" "termsOf" "[I", .methodLink RX7 71 yX7_isPart, .instanceMethod yX7_isPart, .selects RX7 yX7_isPart yX7_isPart, .initialized RX7, .code yX7_isPart cX7_isPart 2 (some .boolean), .fieldLink RX7 65 "PassedDutiesModel" "there" "I", .methodLink RX7 31 yX7_within, .static yX7_within, .code yX7_within cX7_within 3 (some .boolean), .methodLink RX7 68 yX7_has, .static yX7_has, .code yX7_has cX7_has 2 (some .boolean), .methodLink RX7 53 yX7_isTerms, .instanceMethod yX7_isTerms, .selects RX7 yX7_isTerms yX7_isTerms, .code yX7_isTerms cX7_isTerms 2 (some .boolean), .fieldLink RX7 47 "PassedDutiesModel" "termsMany" "I"] ++ wsX70)
def wsX7_usesOf : List Cond := .code yX7_usesOf cX7_usesOf 4 (some .int) :: ([.fieldLink RX7 65 "PassedDutiesModel" "there" "I", .fieldLink RX7 19 "PassedDutiesModel" "kinds" "[I", .methodLink RX7 68 yX7_has, .static yX7_has, .initialized RX7, .code yX7_has cX7_has 2 (some .boolean)] ++ wsX70)
def wsX7_usersOf : List Cond := .code yX7_usersOf cX7_usersOf 4 (some .int) :: ([.fieldLink RX7 65 "PassedDutiesModel" "there" "I", .fieldLink RX7 19 "PassedDutiesModel" "kinds" "[I", .methodLink RX7 68 yX7_has, .static yX7_has, .initialized RX7, .code yX7_has cX7_has 2 (some .boolean)] ++ wsX70)
def wsX7_leave : List Cond := .code yX7_leave cX7_leave 3 (some .int) :: ([.fieldLink RX7 65 "PassedDutiesModel" "there" "I", .fieldLink RX7 80 "PassedDutiesModel" "left" "I", .methodLink RX7 71 yX7_isPart, .instanceMethod yX7_isPart, .selects RX7 yX7_isPart yX7_isPart, .initialized RX7, .code yX7_isPart cX7_isPart 2 (some .boolean), .methodLink RX7 31 yX7_within, .static yX7_within, .code yX7_within cX7_within 3 (some .boolean), .methodLink RX7 68 yX7_has, .static yX7_has, .code yX7_has cX7_has 2 (some .boolean), .methodLink RX7 74 yX7_usesOf, .instanceMethod yX7_usesOf, .selects RX7 yX7_usesOf yX7_usesOf, .code yX7_usesOf cX7_usesOf 4 (some .int), .fieldLink RX7 19 "PassedDutiesModel" "kinds" "[I", .methodLink RX7 77 yX7_usersOf, .instanceMethod yX7_usersOf, .selects RX7 yX7_usersOf yX7_usersOf, .code yX7_usersOf cX7_usersOf 4 (some .int)] ++ wsX70)
def wsX7_join : List Cond := .code yX7_join cX7_join 5 (some .int) :: ([.fieldLink RX7 19 "PassedDutiesModel" "kinds" "[I", .methodLink RX7 71 yX7_isPart, .instanceMethod yX7_isPart, .selects RX7 yX7_isPart yX7_isPart, .initialized RX7, .code yX7_isPart cX7_isPart 2 (some .boolean), .fieldLink RX7 65 "PassedDutiesModel" "there" "I", .methodLink RX7 31 yX7_within, .static yX7_within, .code yX7_within cX7_within 3 (some .boolean), .methodLink RX7 68 yX7_has, .static yX7_has, .code yX7_has cX7_has 2 (some .boolean)] ++ wsX70)
def wsX7_kind : List Cond := .code yX7_kind cX7_kind 3 (some .int) :: ([.fieldLink RX7 19 "PassedDutiesModel" "kinds" "[I", .methodLink RX7 71 yX7_isPart, .instanceMethod yX7_isPart, .selects RX7 yX7_isPart yX7_isPart, .initialized RX7, .code yX7_isPart cX7_isPart 2 (some .boolean), .fieldLink RX7 65 "PassedDutiesModel" "there" "I", .methodLink RX7 31 yX7_within, .static yX7_within, .code yX7_within cX7_within 3 (some .boolean), .methodLink RX7 68 yX7_has, .static yX7_has, .code yX7_has cX7_has 2 (some .boolean)] ++ wsX70)
def wsX7_ownReach : List Cond := .code yX7_ownReach cX7_ownReach 3 (some .int) :: ([.fieldLink RX7 13 "PassedDutiesModel" "reaches" "[I", .fieldLink RX7 16 "PassedDutiesModel" "termsOf" "[I"] ++ wsX70)
def wsX7_withReach : List Cond := .code yX7_withReach cX7_withReach 8 (some .int) :: ([.fieldLink RX7 19 "PassedDutiesModel" "kinds" "[I", .methodLink RX7 68 yX7_has, .static yX7_has, .initialized RX7, .code yX7_has cX7_has 2 (some .boolean), .methodLink RX7 83 yX7_ownReach, .instanceMethod yX7_ownReach, .selects RX7 yX7_ownReach yX7_ownReach, .code yX7_ownReach cX7_ownReach 3 (some .int), .fieldLink RX7 13 "PassedDutiesModel" "reaches" "[I", .fieldLink RX7 16 "PassedDutiesModel" "termsOf" "[I"] ++ wsX70)
def wsX7_heldNow : List Cond := .code yX7_heldNow cX7_heldNow 4 (some .int) :: ([.fieldLink RX7 65 "PassedDutiesModel" "there" "I", .methodLink RX7 87 yX7_withReach, .instanceMethod yX7_withReach, .selects RX7 yX7_withReach yX7_withReach, .initialized RX7, .code yX7_withReach cX7_withReach 8 (some .int), .fieldLink RX7 19 "PassedDutiesModel" "kinds" "[I", .methodLink RX7 68 yX7_has, .static yX7_has, .code yX7_has cX7_has 2 (some .boolean), .methodLink RX7 83 yX7_ownReach, .instanceMethod yX7_ownReach, .selects RX7 yX7_ownReach yX7_ownReach, .code yX7_ownReach cX7_ownReach 3 (some .int), .fieldLink RX7 13 "PassedDutiesModel" "reaches" "[I", .fieldLink RX7 16 "PassedDutiesModel" "termsOf" "[I"] ++ wsX70)
def wsX7_heldBy : List Cond := .code yX7_heldBy cX7_heldBy 3 (some .int) :: ([.methodLink RX7 87 yX7_withReach, .instanceMethod yX7_withReach, .selects RX7 yX7_withReach yX7_withReach, .initialized RX7, .code yX7_withReach cX7_withReach 8 (some .int), .fieldLink RX7 19 "PassedDutiesModel" "kinds" "[I", .methodLink RX7 68 yX7_has, .static yX7_has, .code yX7_has cX7_has 2 (some .boolean), .methodLink RX7 83 yX7_ownReach, .instanceMethod yX7_ownReach, .selects RX7 yX7_ownReach yX7_ownReach, .code yX7_ownReach cX7_ownReach 3 (some .int), .fieldLink RX7 13 "PassedDutiesModel" "reaches" "[I", .fieldLink RX7 16 "PassedDutiesModel" "termsOf" "[I"] ++ wsX70)
def wsX7_clashing : List Cond := .code yX7_clashing cX7_clashing 3 (some .int) :: ([.methodLink RX7 91 yX7_heldBy, .instanceMethod yX7_heldBy, .selects RX7 yX7_heldBy yX7_heldBy, .initialized RX7, .code yX7_heldBy cX7_heldBy 3 (some .int), .methodLink RX7 87 yX7_withReach, .instanceMethod yX7_withReach, .selects RX7 yX7_withReach yX7_withReach, .code yX7_withReach cX7_withReach 8 (some .int), .fieldLink RX7 19 "PassedDutiesModel" "kinds" "[I", .methodLink RX7 68 yX7_has, .static yX7_has, .code yX7_has cX7_has 2 (some .boolean), .methodLink RX7 83 yX7_ownReach, .instanceMethod yX7_ownReach, .selects RX7 yX7_ownReach yX7_ownReach, .code yX7_ownReach cX7_ownReach 3 (some .int), .fieldLink RX7 13 "PassedDutiesModel" "reaches" "[I", .fieldLink RX7 16 "PassedDutiesModel" "termsOf" "[I"] ++ wsX70)
def wsX7_held_r1 : List Cond := [Cond.methodLink RX7 71 yX7_isPart, Cond.instanceMethod yX7_isPart, Cond.selects RX7 yX7_isPart yX7_isPart, Cond.initialized RX7, Cond.code yX7_isPart cX7_isPart 2 (some .boolean), Cond.fieldLink RX7 65 "PassedDutiesModel" "there" "I", Cond.methodLink RX7 31 yX7_within, Cond.static yX7_within, Cond.code yX7_within cX7_within 3 (some .boolean), Cond.methodLink RX7 68 yX7_has, Cond.static yX7_has, Cond.code yX7_has cX7_has 2 (some .boolean), Cond.methodLink RX7 94 yX7_heldNow, Cond.instanceMethod yX7_heldNow, Cond.selects RX7 yX7_heldNow yX7_heldNow, Cond.code yX7_heldNow cX7_heldNow 4 (some .int), Cond.methodLink RX7 87 yX7_withReach, Cond.instanceMethod yX7_withReach, Cond.selects RX7 yX7_withReach yX7_withReach, Cond.code yX7_withReach cX7_withReach 8 (some .int), Cond.fieldLink RX7 19 "PassedDutiesModel" "kinds" "[I", Cond.methodLink RX7 83 yX7_ownReach, Cond.instanceMethod yX7_ownReach, Cond.selects RX7 yX7_ownReach yX7_ownReach]
def wsX7_held_r2 : List Cond := [Cond.code yX7_ownReach cX7_ownReach 3 (some .int), Cond.fieldLink RX7 13 "PassedDutiesModel" "reaches" "[I", Cond.fieldLink RX7 16 "PassedDutiesModel" "termsOf" "[I"]
def wsX7_held : List Cond := .code yX7_held cX7_held 3 (some .int) :: ((wsX7_held_r1 ++ wsX7_held_r2) ++ wsX70)
def wsX7_isLet : List Cond := .code yX7_isLet cX7_isLet 5 (some .boolean) :: ([.fieldLink RX7 19 "PassedDutiesModel" "kinds" "[I", .fieldLink RX7 65 "PassedDutiesModel" "there" "I", .methodLink RX7 68 yX7_has, .static yX7_has, .initialized RX7, .code yX7_has cX7_has 2 (some .boolean)] ++ wsX70)
def wsX7_layFar : List Cond := .code yX7_layFar cX7_layFar 5 none :: ([.fieldLink RX7 25 "PassedDutiesModel" "far" "[I", .fieldLink RX7 65 "PassedDutiesModel" "there" "I", .methodLink RX7 68 yX7_has, .static yX7_has, .initialized RX7, .code yX7_has cX7_has 2 (some .boolean), .methodLink RX7 83 yX7_ownReach, .instanceMethod yX7_ownReach, .selects RX7 yX7_ownReach yX7_ownReach, .code yX7_ownReach cX7_ownReach 3 (some .int), .fieldLink RX7 13 "PassedDutiesModel" "reaches" "[I", .fieldLink RX7 16 "PassedDutiesModel" "termsOf" "[I", .methodLink RX7 97 yX7_isLet, .instanceMethod yX7_isLet, .selects RX7 yX7_isLet yX7_isLet, .code yX7_isLet cX7_isLet 5 (some .boolean), .fieldLink RX7 19 "PassedDutiesModel" "kinds" "[I"] ++ wsX70)
def wsX7_layWay_r1 : List Cond := [Cond.fieldLink RX7 100 "PassedDutiesModel" "wayMany" "I", Cond.fieldLink RX7 22 "PassedDutiesModel" "wayAt" "[I", Cond.fieldLink RX7 25 "PassedDutiesModel" "far" "[I", Cond.methodLink RX7 94 yX7_heldNow, Cond.instanceMethod yX7_heldNow, Cond.selects RX7 yX7_heldNow yX7_heldNow, Cond.initialized RX7, Cond.code yX7_heldNow cX7_heldNow 4 (some .int), Cond.fieldLink RX7 65 "PassedDutiesModel" "there" "I", Cond.methodLink RX7 87 yX7_withReach, Cond.instanceMethod yX7_withReach, Cond.selects RX7 yX7_withReach yX7_withReach, Cond.code yX7_withReach cX7_withReach 8 (some .int), Cond.fieldLink RX7 19 "PassedDutiesModel" "kinds" "[I", Cond.methodLink RX7 68 yX7_has, Cond.static yX7_has, Cond.code yX7_has cX7_has 2 (some .boolean), Cond.methodLink RX7 83 yX7_ownReach, Cond.instanceMethod yX7_ownReach, Cond.selects RX7 yX7_ownReach yX7_ownReach, Cond.code yX7_ownReach cX7_ownReach 3 (some .int), Cond.fieldLink RX7 13 "PassedDutiesModel" "reaches" "[I", Cond.fieldLink RX7 16 "PassedDutiesModel" "termsOf" "[I", Cond.methodLink RX7 103 yX7_layFar]
def wsX7_layWay_r2 : List Cond := [Cond.instanceMethod yX7_layFar, Cond.selects RX7 yX7_layFar yX7_layFar, Cond.code yX7_layFar cX7_layFar 5 none, Cond.methodLink RX7 97 yX7_isLet, Cond.instanceMethod yX7_isLet, Cond.selects RX7 yX7_isLet yX7_isLet, Cond.code yX7_isLet cX7_isLet 5 (some .boolean)]
def wsX7_layWay : List Cond := .code yX7_layWay cX7_layWay 6 none :: ((wsX7_layWay_r1 ++ wsX7_layWay_r2) ++ wsX70)
def wsX7_way_r1 : List Cond := [Cond.fieldLink RX7 100 "PassedDutiesModel" "wayMany" "I", Cond.fieldLink RX7 22 "PassedDutiesModel" "wayAt" "[I", Cond.methodLink RX7 71 yX7_isPart, Cond.instanceMethod yX7_isPart, Cond.selects RX7 yX7_isPart yX7_isPart, Cond.initialized RX7, Cond.code yX7_isPart cX7_isPart 2 (some .boolean), Cond.fieldLink RX7 65 "PassedDutiesModel" "there" "I", Cond.methodLink RX7 31 yX7_within, Cond.static yX7_within, Cond.code yX7_within cX7_within 3 (some .boolean), Cond.methodLink RX7 68 yX7_has, Cond.static yX7_has, Cond.code yX7_has cX7_has 2 (some .boolean), Cond.methodLink RX7 107 yX7_layWay, Cond.instanceMethod yX7_layWay, Cond.selects RX7 yX7_layWay yX7_layWay, Cond.code yX7_layWay cX7_layWay 6 none, Cond.fieldLink RX7 25 "PassedDutiesModel" "far" "[I", Cond.methodLink RX7 94 yX7_heldNow, Cond.instanceMethod yX7_heldNow, Cond.selects RX7 yX7_heldNow yX7_heldNow, Cond.code yX7_heldNow cX7_heldNow 4 (some .int), Cond.methodLink RX7 87 yX7_withReach]
def wsX7_way_r2 : List Cond := [Cond.instanceMethod yX7_withReach, Cond.selects RX7 yX7_withReach yX7_withReach, Cond.code yX7_withReach cX7_withReach 8 (some .int), Cond.fieldLink RX7 19 "PassedDutiesModel" "kinds" "[I", Cond.methodLink RX7 83 yX7_ownReach, Cond.instanceMethod yX7_ownReach, Cond.selects RX7 yX7_ownReach yX7_ownReach, Cond.code yX7_ownReach cX7_ownReach 3 (some .int), Cond.fieldLink RX7 13 "PassedDutiesModel" "reaches" "[I", Cond.fieldLink RX7 16 "PassedDutiesModel" "termsOf" "[I", Cond.methodLink RX7 103 yX7_layFar, Cond.instanceMethod yX7_layFar, Cond.selects RX7 yX7_layFar yX7_layFar, Cond.code yX7_layFar cX7_layFar 5 none, Cond.methodLink RX7 97 yX7_isLet, Cond.instanceMethod yX7_isLet, Cond.selects RX7 yX7_isLet yX7_isLet, Cond.code yX7_isLet cX7_isLet 5 (some .boolean)]
def wsX7_way : List Cond := .code yX7_way cX7_way 4 (some .int) :: ((wsX7_way_r1 ++ wsX7_way_r2) ++ wsX70)
def wsX7_namesOf : List Cond := .code yX7_namesOf cX7_namesOf 6 (some .int) :: ([.methodLink RX7 97 yX7_isLet, .instanceMethod yX7_isLet, .selects RX7 yX7_isLet yX7_isLet, .initialized RX7, .code yX7_isLet cX7_isLet 5 (some .boolean), .fieldLink RX7 19 "PassedDutiesModel" "kinds" "[I", .fieldLink RX7 65 "PassedDutiesModel" "there" "I", .methodLink RX7 68 yX7_has, .static yX7_has, .code yX7_has cX7_has 2 (some .boolean)] ++ wsX70)
def wsX7_actsOf : List Cond := .code yX7_actsOf cX7_actsOf 8 (some .int) :: ([.fieldLink RX7 65 "PassedDutiesModel" "there" "I", .methodLink RX7 91 yX7_heldBy, .instanceMethod yX7_heldBy, .selects RX7 yX7_heldBy yX7_heldBy, .initialized RX7, .code yX7_heldBy cX7_heldBy 3 (some .int), .methodLink RX7 87 yX7_withReach, .instanceMethod yX7_withReach, .selects RX7 yX7_withReach yX7_withReach, .code yX7_withReach cX7_withReach 8 (some .int), .fieldLink RX7 19 "PassedDutiesModel" "kinds" "[I", .methodLink RX7 68 yX7_has, .static yX7_has, .code yX7_has cX7_has 2 (some .boolean), .methodLink RX7 83 yX7_ownReach, .instanceMethod yX7_ownReach, .selects RX7 yX7_ownReach yX7_ownReach, .code yX7_ownReach cX7_ownReach 3 (some .int), .fieldLink RX7 13 "PassedDutiesModel" "reaches" "[I", .fieldLink RX7 16 "PassedDutiesModel" "termsOf" "[I"] ++ wsX70)
def wsX7_partNow_r1 : List Cond := [Cond.fieldLink RX7 16 "PassedDutiesModel" "termsOf" "[I", Cond.methodLink RX7 110 yX7_namesOf, Cond.instanceMethod yX7_namesOf, Cond.selects RX7 yX7_namesOf yX7_namesOf, Cond.initialized RX7, Cond.code yX7_namesOf cX7_namesOf 6 (some .int), Cond.methodLink RX7 97 yX7_isLet, Cond.instanceMethod yX7_isLet, Cond.selects RX7 yX7_isLet yX7_isLet, Cond.code yX7_isLet cX7_isLet 5 (some .boolean), Cond.fieldLink RX7 19 "PassedDutiesModel" "kinds" "[I", Cond.fieldLink RX7 65 "PassedDutiesModel" "there" "I", Cond.methodLink RX7 68 yX7_has, Cond.static yX7_has, Cond.code yX7_has cX7_has 2 (some .boolean), Cond.methodLink RX7 74 yX7_usesOf, Cond.instanceMethod yX7_usesOf, Cond.selects RX7 yX7_usesOf yX7_usesOf, Cond.code yX7_usesOf cX7_usesOf 4 (some .int), Cond.methodLink RX7 77 yX7_usersOf, Cond.instanceMethod yX7_usersOf, Cond.selects RX7 yX7_usersOf yX7_usersOf, Cond.code yX7_usersOf cX7_usersOf 4 (some .int), Cond.methodLink RX7 113 yX7_actsOf]
def wsX7_partNow_r2 : List Cond := [Cond.instanceMethod yX7_actsOf, Cond.selects RX7 yX7_actsOf yX7_actsOf, Cond.code yX7_actsOf cX7_actsOf 8 (some .int), Cond.methodLink RX7 91 yX7_heldBy, Cond.instanceMethod yX7_heldBy, Cond.selects RX7 yX7_heldBy yX7_heldBy, Cond.code yX7_heldBy cX7_heldBy 3 (some .int), Cond.methodLink RX7 87 yX7_withReach, Cond.instanceMethod yX7_withReach, Cond.selects RX7 yX7_withReach yX7_withReach, Cond.code yX7_withReach cX7_withReach 8 (some .int), Cond.methodLink RX7 83 yX7_ownReach, Cond.instanceMethod yX7_ownReach, Cond.selects RX7 yX7_ownReach yX7_ownReach, Cond.code yX7_ownReach cX7_ownReach 3 (some .int), Cond.fieldLink RX7 13 "PassedDutiesModel" "reaches" "[I"]
def wsX7_partNow : List Cond := .code yX7_partNow cX7_partNow 3 (some .int) :: ((wsX7_partNow_r1 ++ wsX7_partNow_r2) ++ wsX70)
def wsX7_of_r1 : List Cond := [Cond.methodLink RX7 71 yX7_isPart, Cond.instanceMethod yX7_isPart, Cond.selects RX7 yX7_isPart yX7_isPart, Cond.initialized RX7, Cond.code yX7_isPart cX7_isPart 2 (some .boolean), Cond.fieldLink RX7 65 "PassedDutiesModel" "there" "I", Cond.methodLink RX7 31 yX7_within, Cond.static yX7_within, Cond.code yX7_within cX7_within 3 (some .boolean), Cond.methodLink RX7 68 yX7_has, Cond.static yX7_has, Cond.code yX7_has cX7_has 2 (some .boolean), Cond.methodLink RX7 116 yX7_partNow, Cond.instanceMethod yX7_partNow, Cond.selects RX7 yX7_partNow yX7_partNow, Cond.code yX7_partNow cX7_partNow 3 (some .int), Cond.fieldLink RX7 16 "PassedDutiesModel" "termsOf" "[I", Cond.methodLink RX7 110 yX7_namesOf, Cond.instanceMethod yX7_namesOf, Cond.selects RX7 yX7_namesOf yX7_namesOf, Cond.code yX7_namesOf cX7_namesOf 6 (some .int), Cond.methodLink RX7 97 yX7_isLet, Cond.instanceMethod yX7_isLet, Cond.selects RX7 yX7_isLet yX7_isLet]
def wsX7_of_r2 : List Cond := [Cond.code yX7_isLet cX7_isLet 5 (some .boolean), Cond.fieldLink RX7 19 "PassedDutiesModel" "kinds" "[I", Cond.methodLink RX7 74 yX7_usesOf, Cond.instanceMethod yX7_usesOf, Cond.selects RX7 yX7_usesOf yX7_usesOf, Cond.code yX7_usesOf cX7_usesOf 4 (some .int), Cond.methodLink RX7 77 yX7_usersOf, Cond.instanceMethod yX7_usersOf, Cond.selects RX7 yX7_usersOf yX7_usersOf, Cond.code yX7_usersOf cX7_usersOf 4 (some .int), Cond.methodLink RX7 113 yX7_actsOf, Cond.instanceMethod yX7_actsOf, Cond.selects RX7 yX7_actsOf yX7_actsOf, Cond.code yX7_actsOf cX7_actsOf 8 (some .int), Cond.methodLink RX7 91 yX7_heldBy, Cond.instanceMethod yX7_heldBy, Cond.selects RX7 yX7_heldBy yX7_heldBy, Cond.code yX7_heldBy cX7_heldBy 3 (some .int), Cond.methodLink RX7 87 yX7_withReach, Cond.instanceMethod yX7_withReach, Cond.selects RX7 yX7_withReach yX7_withReach, Cond.code yX7_withReach cX7_withReach 8 (some .int), Cond.methodLink RX7 83 yX7_ownReach, Cond.instanceMethod yX7_ownReach]
def wsX7_of_r3 : List Cond := [Cond.selects RX7 yX7_ownReach yX7_ownReach, Cond.code yX7_ownReach cX7_ownReach 3 (some .int), Cond.fieldLink RX7 13 "PassedDutiesModel" "reaches" "[I"]
def wsX7_of : List Cond := .code yX7_of cX7_of 3 (some .int) :: ((wsX7_of_r1 ++ (wsX7_of_r2 ++ wsX7_of_r3)) ++ wsX70)
def wsX7_layClashes_r1 : List Cond := [Cond.fieldLink RX7 119 "PassedDutiesModel" "clashes" "I", Cond.fieldLink RX7 65 "PassedDutiesModel" "there" "I", Cond.fieldLink RX7 28 "PassedDutiesModel" "clashAt" "[I", Cond.methodLink RX7 122 yX7_clashing, Cond.instanceMethod yX7_clashing, Cond.selects RX7 yX7_clashing yX7_clashing, Cond.initialized RX7, Cond.code yX7_clashing cX7_clashing 3 (some .int), Cond.methodLink RX7 91 yX7_heldBy, Cond.instanceMethod yX7_heldBy, Cond.selects RX7 yX7_heldBy yX7_heldBy, Cond.code yX7_heldBy cX7_heldBy 3 (some .int), Cond.methodLink RX7 87 yX7_withReach, Cond.instanceMethod yX7_withReach, Cond.selects RX7 yX7_withReach yX7_withReach, Cond.code yX7_withReach cX7_withReach 8 (some .int), Cond.fieldLink RX7 19 "PassedDutiesModel" "kinds" "[I", Cond.methodLink RX7 68 yX7_has, Cond.static yX7_has, Cond.code yX7_has cX7_has 2 (some .boolean), Cond.methodLink RX7 83 yX7_ownReach, Cond.instanceMethod yX7_ownReach, Cond.selects RX7 yX7_ownReach yX7_ownReach, Cond.code yX7_ownReach cX7_ownReach 3 (some .int)]
def wsX7_layClashes_r2 : List Cond := [Cond.fieldLink RX7 13 "PassedDutiesModel" "reaches" "[I", Cond.fieldLink RX7 16 "PassedDutiesModel" "termsOf" "[I"]
def wsX7_layClashes : List Cond := .code yX7_layClashes cX7_layClashes 3 none :: ((wsX7_layClashes_r1 ++ wsX7_layClashes_r2) ++ wsX70)
def wsX7_clash_r1 : List Cond := [Cond.fieldLink RX7 119 "PassedDutiesModel" "clashes" "I", Cond.fieldLink RX7 28 "PassedDutiesModel" "clashAt" "[I", Cond.methodLink RX7 125 yX7_layClashes, Cond.instanceMethod yX7_layClashes, Cond.selects RX7 yX7_layClashes yX7_layClashes, Cond.initialized RX7, Cond.code yX7_layClashes cX7_layClashes 3 none, Cond.fieldLink RX7 65 "PassedDutiesModel" "there" "I", Cond.methodLink RX7 122 yX7_clashing, Cond.instanceMethod yX7_clashing, Cond.selects RX7 yX7_clashing yX7_clashing, Cond.code yX7_clashing cX7_clashing 3 (some .int), Cond.methodLink RX7 91 yX7_heldBy, Cond.instanceMethod yX7_heldBy, Cond.selects RX7 yX7_heldBy yX7_heldBy, Cond.code yX7_heldBy cX7_heldBy 3 (some .int), Cond.methodLink RX7 87 yX7_withReach, Cond.instanceMethod yX7_withReach, Cond.selects RX7 yX7_withReach yX7_withReach, Cond.code yX7_withReach cX7_withReach 8 (some .int), Cond.fieldLink RX7 19 "PassedDutiesModel" "kinds" "[I", Cond.methodLink RX7 68 yX7_has, Cond.static yX7_has, Cond.code yX7_has cX7_has 2 (some .boolean)]
def wsX7_clash_r2 : List Cond := [Cond.methodLink RX7 83 yX7_ownReach, Cond.instanceMethod yX7_ownReach, Cond.selects RX7 yX7_ownReach yX7_ownReach, Cond.code yX7_ownReach cX7_ownReach 3 (some .int), Cond.fieldLink RX7 13 "PassedDutiesModel" "reaches" "[I", Cond.fieldLink RX7 16 "PassedDutiesModel" "termsOf" "[I", Cond.methodLink RX7 31 yX7_within, Cond.static yX7_within, Cond.code yX7_within cX7_within 3 (some .boolean)]
def wsX7_clash : List Cond := .code yX7_clash cX7_clash 2 (some .int) :: ((wsX7_clash_r1 ++ wsX7_clash_r2) ++ wsX70)
def wsX7_causeNow_r1 : List Cond := [Cond.fieldLink RX7 65 "PassedDutiesModel" "there" "I", Cond.methodLink RX7 68 yX7_has, Cond.static yX7_has, Cond.initialized RX7, Cond.code yX7_has cX7_has 2 (some .boolean), Cond.methodLink RX7 128 yX7_ones, Cond.static yX7_ones, Cond.code yX7_ones cX7_ones 3 (some .int), Cond.methodLink RX7 122 yX7_clashing, Cond.instanceMethod yX7_clashing, Cond.selects RX7 yX7_clashing yX7_clashing, Cond.code yX7_clashing cX7_clashing 3 (some .int), Cond.methodLink RX7 91 yX7_heldBy, Cond.instanceMethod yX7_heldBy, Cond.selects RX7 yX7_heldBy yX7_heldBy, Cond.code yX7_heldBy cX7_heldBy 3 (some .int), Cond.methodLink RX7 87 yX7_withReach, Cond.instanceMethod yX7_withReach, Cond.selects RX7 yX7_withReach yX7_withReach, Cond.code yX7_withReach cX7_withReach 8 (some .int), Cond.fieldLink RX7 19 "PassedDutiesModel" "kinds" "[I", Cond.methodLink RX7 83 yX7_ownReach, Cond.instanceMethod yX7_ownReach, Cond.selects RX7 yX7_ownReach yX7_ownReach]
def wsX7_causeNow_r2 : List Cond := [Cond.code yX7_ownReach cX7_ownReach 3 (some .int), Cond.fieldLink RX7 13 "PassedDutiesModel" "reaches" "[I", Cond.fieldLink RX7 16 "PassedDutiesModel" "termsOf" "[I"]
def wsX7_causeNow : List Cond := .code yX7_causeNow cX7_causeNow 6 (some .int) :: ((wsX7_causeNow_r1 ++ wsX7_causeNow_r2) ++ wsX70)
def wsX7_cause_r1 : List Cond := [Cond.methodLink RX7 71 yX7_isPart, Cond.instanceMethod yX7_isPart, Cond.selects RX7 yX7_isPart yX7_isPart, Cond.initialized RX7, Cond.code yX7_isPart cX7_isPart 2 (some .boolean), Cond.fieldLink RX7 65 "PassedDutiesModel" "there" "I", Cond.methodLink RX7 31 yX7_within, Cond.static yX7_within, Cond.code yX7_within cX7_within 3 (some .boolean), Cond.methodLink RX7 68 yX7_has, Cond.static yX7_has, Cond.code yX7_has cX7_has 2 (some .boolean), Cond.methodLink RX7 131 yX7_causeNow, Cond.instanceMethod yX7_causeNow, Cond.selects RX7 yX7_causeNow yX7_causeNow, Cond.code yX7_causeNow cX7_causeNow 6 (some .int), Cond.methodLink RX7 128 yX7_ones, Cond.static yX7_ones, Cond.code yX7_ones cX7_ones 3 (some .int), Cond.methodLink RX7 122 yX7_clashing, Cond.instanceMethod yX7_clashing, Cond.selects RX7 yX7_clashing yX7_clashing, Cond.code yX7_clashing cX7_clashing 3 (some .int), Cond.methodLink RX7 91 yX7_heldBy]
def wsX7_cause_r2 : List Cond := [Cond.instanceMethod yX7_heldBy, Cond.selects RX7 yX7_heldBy yX7_heldBy, Cond.code yX7_heldBy cX7_heldBy 3 (some .int), Cond.methodLink RX7 87 yX7_withReach, Cond.instanceMethod yX7_withReach, Cond.selects RX7 yX7_withReach yX7_withReach, Cond.code yX7_withReach cX7_withReach 8 (some .int), Cond.fieldLink RX7 19 "PassedDutiesModel" "kinds" "[I", Cond.methodLink RX7 83 yX7_ownReach, Cond.instanceMethod yX7_ownReach, Cond.selects RX7 yX7_ownReach yX7_ownReach, Cond.code yX7_ownReach cX7_ownReach 3 (some .int), Cond.fieldLink RX7 13 "PassedDutiesModel" "reaches" "[I", Cond.fieldLink RX7 16 "PassedDutiesModel" "termsOf" "[I"]
def wsX7_cause : List Cond := .code yX7_cause cX7_cause 3 (some .int) :: ((wsX7_cause_r1 ++ wsX7_cause_r2) ++ wsX70)
def wsX7_isClean : List Cond := .code yX7_isClean cX7_isClean 4 (some .boolean) :: ([.methodLink RX7 122 yX7_clashing, .instanceMethod yX7_clashing, .selects RX7 yX7_clashing yX7_clashing, .initialized RX7, .code yX7_clashing cX7_clashing 3 (some .int), .methodLink RX7 91 yX7_heldBy, .instanceMethod yX7_heldBy, .selects RX7 yX7_heldBy yX7_heldBy, .code yX7_heldBy cX7_heldBy 3 (some .int), .methodLink RX7 87 yX7_withReach, .instanceMethod yX7_withReach, .selects RX7 yX7_withReach yX7_withReach, .code yX7_withReach cX7_withReach 8 (some .int), .fieldLink RX7 19 "PassedDutiesModel" "kinds" "[I", .methodLink RX7 68 yX7_has, .static yX7_has, .code yX7_has cX7_has 2 (some .boolean), .methodLink RX7 83 yX7_ownReach, .instanceMethod yX7_ownReach, .selects RX7 yX7_ownReach yX7_ownReach, .code yX7_ownReach cX7_ownReach 3 (some .int), .fieldLink RX7 13 "PassedDutiesModel" "reaches" "[I", .fieldLink RX7 16 "PassedDutiesModel" "termsOf" "[I"] ++ wsX70)
def wsX7_cureNow_r1 : List Cond := [Cond.fieldLink RX7 65 "PassedDutiesModel" "there" "I", Cond.methodLink RX7 128 yX7_ones, Cond.static yX7_ones, Cond.initialized RX7, Cond.code yX7_ones cX7_ones 3 (some .int), Cond.methodLink RX7 134 yX7_isClean, Cond.instanceMethod yX7_isClean, Cond.selects RX7 yX7_isClean yX7_isClean, Cond.code yX7_isClean cX7_isClean 4 (some .boolean), Cond.methodLink RX7 122 yX7_clashing, Cond.instanceMethod yX7_clashing, Cond.selects RX7 yX7_clashing yX7_clashing, Cond.code yX7_clashing cX7_clashing 3 (some .int), Cond.methodLink RX7 91 yX7_heldBy, Cond.instanceMethod yX7_heldBy, Cond.selects RX7 yX7_heldBy yX7_heldBy, Cond.code yX7_heldBy cX7_heldBy 3 (some .int), Cond.methodLink RX7 87 yX7_withReach, Cond.instanceMethod yX7_withReach, Cond.selects RX7 yX7_withReach yX7_withReach, Cond.code yX7_withReach cX7_withReach 8 (some .int), Cond.fieldLink RX7 19 "PassedDutiesModel" "kinds" "[I", Cond.methodLink RX7 68 yX7_has, Cond.static yX7_has]
def wsX7_cureNow_r2 : List Cond := [Cond.code yX7_has cX7_has 2 (some .boolean), Cond.methodLink RX7 83 yX7_ownReach, Cond.instanceMethod yX7_ownReach, Cond.selects RX7 yX7_ownReach yX7_ownReach, Cond.code yX7_ownReach cX7_ownReach 3 (some .int), Cond.fieldLink RX7 13 "PassedDutiesModel" "reaches" "[I", Cond.fieldLink RX7 16 "PassedDutiesModel" "termsOf" "[I"]
def wsX7_cureNow : List Cond := .code yX7_cureNow cX7_cureNow 3 (some .int) :: ((wsX7_cureNow_r1 ++ wsX7_cureNow_r2) ++ wsX70)
def wsX7_cure_r1 : List Cond := [Cond.methodLink RX7 137 yX7_cureNow, Cond.instanceMethod yX7_cureNow, Cond.selects RX7 yX7_cureNow yX7_cureNow, Cond.initialized RX7, Cond.code yX7_cureNow cX7_cureNow 3 (some .int), Cond.fieldLink RX7 65 "PassedDutiesModel" "there" "I", Cond.methodLink RX7 128 yX7_ones, Cond.static yX7_ones, Cond.code yX7_ones cX7_ones 3 (some .int), Cond.methodLink RX7 134 yX7_isClean, Cond.instanceMethod yX7_isClean, Cond.selects RX7 yX7_isClean yX7_isClean, Cond.code yX7_isClean cX7_isClean 4 (some .boolean), Cond.methodLink RX7 122 yX7_clashing, Cond.instanceMethod yX7_clashing, Cond.selects RX7 yX7_clashing yX7_clashing, Cond.code yX7_clashing cX7_clashing 3 (some .int), Cond.methodLink RX7 91 yX7_heldBy, Cond.instanceMethod yX7_heldBy, Cond.selects RX7 yX7_heldBy yX7_heldBy, Cond.code yX7_heldBy cX7_heldBy 3 (some .int), Cond.methodLink RX7 87 yX7_withReach, Cond.instanceMethod yX7_withReach, Cond.selects RX7 yX7_withReach yX7_withReach]
def wsX7_cure_r2 : List Cond := [Cond.code yX7_withReach cX7_withReach 8 (some .int), Cond.fieldLink RX7 19 "PassedDutiesModel" "kinds" "[I", Cond.methodLink RX7 68 yX7_has, Cond.static yX7_has, Cond.code yX7_has cX7_has 2 (some .boolean), Cond.methodLink RX7 83 yX7_ownReach, Cond.instanceMethod yX7_ownReach, Cond.selects RX7 yX7_ownReach yX7_ownReach, Cond.code yX7_ownReach cX7_ownReach 3 (some .int), Cond.fieldLink RX7 13 "PassedDutiesModel" "reaches" "[I", Cond.fieldLink RX7 16 "PassedDutiesModel" "termsOf" "[I"]
def wsX7_cure : List Cond := .code yX7_cure cX7_cure 1 (some .int) :: ((wsX7_cure_r1 ++ wsX7_cure_r2) ++ wsX70)
def wsX7_joins : List Cond := .code yX7_joins cX7_joins 3 (some .int) :: ([.fieldLink RX7 65 "PassedDutiesModel" "there" "I", .methodLink RX7 68 yX7_has, .static yX7_has, .initialized RX7, .code yX7_has cX7_has 2 (some .boolean), .methodLink RX7 74 yX7_usesOf, .instanceMethod yX7_usesOf, .selects RX7 yX7_usesOf yX7_usesOf, .code yX7_usesOf cX7_usesOf 4 (some .int), .fieldLink RX7 19 "PassedDutiesModel" "kinds" "[I"] ++ wsX70)
def wsX7_clashMany_r1 : List Cond := [Cond.fieldLink RX7 119 "PassedDutiesModel" "clashes" "I", Cond.fieldLink RX7 28 "PassedDutiesModel" "clashAt" "[I", Cond.methodLink RX7 125 yX7_layClashes, Cond.instanceMethod yX7_layClashes, Cond.selects RX7 yX7_layClashes yX7_layClashes, Cond.initialized RX7, Cond.code yX7_layClashes cX7_layClashes 3 none, Cond.fieldLink RX7 65 "PassedDutiesModel" "there" "I", Cond.methodLink RX7 122 yX7_clashing, Cond.instanceMethod yX7_clashing, Cond.selects RX7 yX7_clashing yX7_clashing, Cond.code yX7_clashing cX7_clashing 3 (some .int), Cond.methodLink RX7 91 yX7_heldBy, Cond.instanceMethod yX7_heldBy, Cond.selects RX7 yX7_heldBy yX7_heldBy, Cond.code yX7_heldBy cX7_heldBy 3 (some .int), Cond.methodLink RX7 87 yX7_withReach, Cond.instanceMethod yX7_withReach, Cond.selects RX7 yX7_withReach yX7_withReach, Cond.code yX7_withReach cX7_withReach 8 (some .int), Cond.fieldLink RX7 19 "PassedDutiesModel" "kinds" "[I", Cond.methodLink RX7 68 yX7_has, Cond.static yX7_has, Cond.code yX7_has cX7_has 2 (some .boolean)]
def wsX7_clashMany_r2 : List Cond := [Cond.methodLink RX7 83 yX7_ownReach, Cond.instanceMethod yX7_ownReach, Cond.selects RX7 yX7_ownReach yX7_ownReach, Cond.code yX7_ownReach cX7_ownReach 3 (some .int), Cond.fieldLink RX7 13 "PassedDutiesModel" "reaches" "[I", Cond.fieldLink RX7 16 "PassedDutiesModel" "termsOf" "[I", Cond.methodLink RX7 128 yX7_ones, Cond.static yX7_ones, Cond.code yX7_ones cX7_ones 3 (some .int)]
def wsX7_clashMany : List Cond := .code yX7_clashMany cX7_clashMany 4 (some .int) :: ((wsX7_clashMany_r1 ++ wsX7_clashMany_r2) ++ wsX70)
def wsX7_howMany_r1 : List Cond := [Cond.fieldLink RX7 35 "PassedDutiesModel" "pageLength" "I", Cond.fieldLink RX7 47 "PassedDutiesModel" "termsMany" "I", Cond.fieldLink RX7 65 "PassedDutiesModel" "there" "I", Cond.fieldLink RX7 80 "PassedDutiesModel" "left" "I", Cond.methodLink RX7 128 yX7_ones, Cond.static yX7_ones, Cond.initialized RX7, Cond.code yX7_ones cX7_ones 3 (some .int), Cond.methodLink RX7 140 yX7_joins, Cond.instanceMethod yX7_joins, Cond.selects RX7 yX7_joins yX7_joins, Cond.code yX7_joins cX7_joins 3 (some .int), Cond.methodLink RX7 68 yX7_has, Cond.static yX7_has, Cond.code yX7_has cX7_has 2 (some .boolean), Cond.methodLink RX7 74 yX7_usesOf, Cond.instanceMethod yX7_usesOf, Cond.selects RX7 yX7_usesOf yX7_usesOf, Cond.code yX7_usesOf cX7_usesOf 4 (some .int), Cond.fieldLink RX7 19 "PassedDutiesModel" "kinds" "[I", Cond.methodLink RX7 143 yX7_clashMany, Cond.instanceMethod yX7_clashMany, Cond.selects RX7 yX7_clashMany yX7_clashMany, Cond.code yX7_clashMany cX7_clashMany 4 (some .int)]
def wsX7_howMany_r2 : List Cond := [Cond.fieldLink RX7 119 "PassedDutiesModel" "clashes" "I", Cond.fieldLink RX7 28 "PassedDutiesModel" "clashAt" "[I", Cond.methodLink RX7 125 yX7_layClashes, Cond.instanceMethod yX7_layClashes, Cond.selects RX7 yX7_layClashes yX7_layClashes, Cond.code yX7_layClashes cX7_layClashes 3 none, Cond.methodLink RX7 122 yX7_clashing, Cond.instanceMethod yX7_clashing, Cond.selects RX7 yX7_clashing yX7_clashing, Cond.code yX7_clashing cX7_clashing 3 (some .int), Cond.methodLink RX7 91 yX7_heldBy, Cond.instanceMethod yX7_heldBy, Cond.selects RX7 yX7_heldBy yX7_heldBy, Cond.code yX7_heldBy cX7_heldBy 3 (some .int), Cond.methodLink RX7 87 yX7_withReach, Cond.instanceMethod yX7_withReach, Cond.selects RX7 yX7_withReach yX7_withReach, Cond.code yX7_withReach cX7_withReach 8 (some .int), Cond.methodLink RX7 83 yX7_ownReach, Cond.instanceMethod yX7_ownReach, Cond.selects RX7 yX7_ownReach yX7_ownReach, Cond.code yX7_ownReach cX7_ownReach 3 (some .int), Cond.fieldLink RX7 13 "PassedDutiesModel" "reaches" "[I", Cond.fieldLink RX7 16 "PassedDutiesModel" "termsOf" "[I"]
def wsX7_howMany : List Cond := .code yX7_howMany cX7_howMany 2 (some .int) :: ((wsX7_howMany_r1 ++ wsX7_howMany_r2) ++ wsX70)
def wsX7_count_r1 : List Cond := [Cond.methodLink RX7 147 yX7_howMany, Cond.instanceMethod yX7_howMany, Cond.selects RX7 yX7_howMany yX7_howMany, Cond.initialized RX7, Cond.code yX7_howMany cX7_howMany 2 (some .int), Cond.fieldLink RX7 35 "PassedDutiesModel" "pageLength" "I", Cond.fieldLink RX7 47 "PassedDutiesModel" "termsMany" "I", Cond.fieldLink RX7 65 "PassedDutiesModel" "there" "I", Cond.fieldLink RX7 80 "PassedDutiesModel" "left" "I", Cond.methodLink RX7 128 yX7_ones, Cond.static yX7_ones, Cond.code yX7_ones cX7_ones 3 (some .int), Cond.methodLink RX7 140 yX7_joins, Cond.instanceMethod yX7_joins, Cond.selects RX7 yX7_joins yX7_joins, Cond.code yX7_joins cX7_joins 3 (some .int), Cond.methodLink RX7 68 yX7_has, Cond.static yX7_has, Cond.code yX7_has cX7_has 2 (some .boolean), Cond.methodLink RX7 74 yX7_usesOf, Cond.instanceMethod yX7_usesOf, Cond.selects RX7 yX7_usesOf yX7_usesOf, Cond.code yX7_usesOf cX7_usesOf 4 (some .int), Cond.fieldLink RX7 19 "PassedDutiesModel" "kinds" "[I"]
def wsX7_count_r2 : List Cond := [Cond.methodLink RX7 143 yX7_clashMany, Cond.instanceMethod yX7_clashMany, Cond.selects RX7 yX7_clashMany yX7_clashMany, Cond.code yX7_clashMany cX7_clashMany 4 (some .int), Cond.fieldLink RX7 119 "PassedDutiesModel" "clashes" "I", Cond.fieldLink RX7 28 "PassedDutiesModel" "clashAt" "[I", Cond.methodLink RX7 125 yX7_layClashes, Cond.instanceMethod yX7_layClashes, Cond.selects RX7 yX7_layClashes yX7_layClashes, Cond.code yX7_layClashes cX7_layClashes 3 none, Cond.methodLink RX7 122 yX7_clashing, Cond.instanceMethod yX7_clashing, Cond.selects RX7 yX7_clashing yX7_clashing, Cond.code yX7_clashing cX7_clashing 3 (some .int), Cond.methodLink RX7 91 yX7_heldBy, Cond.instanceMethod yX7_heldBy, Cond.selects RX7 yX7_heldBy yX7_heldBy, Cond.code yX7_heldBy cX7_heldBy 3 (some .int), Cond.methodLink RX7 87 yX7_withReach, Cond.instanceMethod yX7_withReach, Cond.selects RX7 yX7_withReach yX7_withReach, Cond.code yX7_withReach cX7_withReach 8 (some .int), Cond.methodLink RX7 83 yX7_ownReach, Cond.instanceMethod yX7_ownReach]
def wsX7_count_r3 : List Cond := [Cond.selects RX7 yX7_ownReach yX7_ownReach, Cond.code yX7_ownReach cX7_ownReach 3 (some .int), Cond.fieldLink RX7 13 "PassedDutiesModel" "reaches" "[I", Cond.fieldLink RX7 16 "PassedDutiesModel" "termsOf" "[I"]
def wsX7_count : List Cond := .code yX7_count cX7_count 2 (some .int) :: ((wsX7_count_r1 ++ (wsX7_count_r2 ++ wsX7_count_r3)) ++ wsX70)
def wsX7_mix : List Cond := .code yX7_mix cX7_mix 3 none :: ([.constantLong RX7 150 (31), .fieldLink RX7 152 "PassedDutiesModel" "h" "J"] ++ wsX70)
def wsX7_mixPart_r1 : List Cond := [Cond.fieldLink RX7 65 "PassedDutiesModel" "there" "I", Cond.fieldLink RX7 19 "PassedDutiesModel" "kinds" "[I", Cond.methodLink RX7 156 yX7_mix, Cond.instanceMethod yX7_mix, Cond.selects RX7 yX7_mix yX7_mix, Cond.initialized RX7, Cond.code yX7_mix cX7_mix 3 none, Cond.constantLong RX7 150 (31), Cond.fieldLink RX7 152 "PassedDutiesModel" "h" "J", Cond.methodLink RX7 116 yX7_partNow, Cond.instanceMethod yX7_partNow, Cond.selects RX7 yX7_partNow yX7_partNow, Cond.code yX7_partNow cX7_partNow 3 (some .int), Cond.fieldLink RX7 16 "PassedDutiesModel" "termsOf" "[I", Cond.methodLink RX7 110 yX7_namesOf, Cond.instanceMethod yX7_namesOf, Cond.selects RX7 yX7_namesOf yX7_namesOf, Cond.code yX7_namesOf cX7_namesOf 6 (some .int), Cond.methodLink RX7 97 yX7_isLet, Cond.instanceMethod yX7_isLet, Cond.selects RX7 yX7_isLet yX7_isLet, Cond.code yX7_isLet cX7_isLet 5 (some .boolean), Cond.methodLink RX7 68 yX7_has, Cond.static yX7_has]
def wsX7_mixPart_r2 : List Cond := [Cond.code yX7_has cX7_has 2 (some .boolean), Cond.methodLink RX7 74 yX7_usesOf, Cond.instanceMethod yX7_usesOf, Cond.selects RX7 yX7_usesOf yX7_usesOf, Cond.code yX7_usesOf cX7_usesOf 4 (some .int), Cond.methodLink RX7 77 yX7_usersOf, Cond.instanceMethod yX7_usersOf, Cond.selects RX7 yX7_usersOf yX7_usersOf, Cond.code yX7_usersOf cX7_usersOf 4 (some .int), Cond.methodLink RX7 113 yX7_actsOf, Cond.instanceMethod yX7_actsOf, Cond.selects RX7 yX7_actsOf yX7_actsOf, Cond.code yX7_actsOf cX7_actsOf 8 (some .int), Cond.methodLink RX7 91 yX7_heldBy, Cond.instanceMethod yX7_heldBy, Cond.selects RX7 yX7_heldBy yX7_heldBy, Cond.code yX7_heldBy cX7_heldBy 3 (some .int), Cond.methodLink RX7 87 yX7_withReach, Cond.instanceMethod yX7_withReach, Cond.selects RX7 yX7_withReach yX7_withReach, Cond.code yX7_withReach cX7_withReach 8 (some .int), Cond.methodLink RX7 83 yX7_ownReach, Cond.instanceMethod yX7_ownReach, Cond.selects RX7 yX7_ownReach yX7_ownReach]
def wsX7_mixPart_r3 : List Cond := [Cond.code yX7_ownReach cX7_ownReach 3 (some .int), Cond.fieldLink RX7 13 "PassedDutiesModel" "reaches" "[I", Cond.methodLink RX7 94 yX7_heldNow, Cond.instanceMethod yX7_heldNow, Cond.selects RX7 yX7_heldNow yX7_heldNow, Cond.code yX7_heldNow cX7_heldNow 4 (some .int)]
def wsX7_mixPart : List Cond := .code yX7_mixPart cX7_mixPart 3 none :: ((wsX7_mixPart_r1 ++ (wsX7_mixPart_r2 ++ wsX7_mixPart_r3)) ++ wsX70)
def wsX7_digest_r1 : List Cond := [Cond.constantLong RX7 160 (1697), Cond.fieldLink RX7 152 "PassedDutiesModel" "h" "J", Cond.fieldLink RX7 47 "PassedDutiesModel" "termsMany" "I", Cond.fieldLink RX7 13 "PassedDutiesModel" "reaches" "[I", Cond.fieldLink RX7 65 "PassedDutiesModel" "there" "I", Cond.fieldLink RX7 119 "PassedDutiesModel" "clashes" "I", Cond.fieldLink RX7 28 "PassedDutiesModel" "clashAt" "[I", Cond.fieldLink RX7 35 "PassedDutiesModel" "pageLength" "I", Cond.fieldLink RX7 7 "PassedDutiesModel" "page" "[I", Cond.methodLink RX7 156 yX7_mix, Cond.instanceMethod yX7_mix, Cond.selects RX7 yX7_mix yX7_mix, Cond.initialized RX7, Cond.code yX7_mix cX7_mix 3 none, Cond.constantLong RX7 150 (31), Cond.methodLink RX7 68 yX7_has, Cond.static yX7_has, Cond.code yX7_has cX7_has 2 (some .boolean), Cond.methodLink RX7 162 yX7_mixPart, Cond.instanceMethod yX7_mixPart, Cond.selects RX7 yX7_mixPart yX7_mixPart, Cond.code yX7_mixPart cX7_mixPart 3 none, Cond.fieldLink RX7 19 "PassedDutiesModel" "kinds" "[I", Cond.methodLink RX7 116 yX7_partNow]
def wsX7_digest_r2 : List Cond := [Cond.instanceMethod yX7_partNow, Cond.selects RX7 yX7_partNow yX7_partNow, Cond.code yX7_partNow cX7_partNow 3 (some .int), Cond.fieldLink RX7 16 "PassedDutiesModel" "termsOf" "[I", Cond.methodLink RX7 110 yX7_namesOf, Cond.instanceMethod yX7_namesOf, Cond.selects RX7 yX7_namesOf yX7_namesOf, Cond.code yX7_namesOf cX7_namesOf 6 (some .int), Cond.methodLink RX7 97 yX7_isLet, Cond.instanceMethod yX7_isLet, Cond.selects RX7 yX7_isLet yX7_isLet, Cond.code yX7_isLet cX7_isLet 5 (some .boolean), Cond.methodLink RX7 74 yX7_usesOf, Cond.instanceMethod yX7_usesOf, Cond.selects RX7 yX7_usesOf yX7_usesOf, Cond.code yX7_usesOf cX7_usesOf 4 (some .int), Cond.methodLink RX7 77 yX7_usersOf, Cond.instanceMethod yX7_usersOf, Cond.selects RX7 yX7_usersOf yX7_usersOf, Cond.code yX7_usersOf cX7_usersOf 4 (some .int), Cond.methodLink RX7 113 yX7_actsOf, Cond.instanceMethod yX7_actsOf, Cond.selects RX7 yX7_actsOf yX7_actsOf, Cond.code yX7_actsOf cX7_actsOf 8 (some .int)]
def wsX7_digest_r3 : List Cond := [Cond.methodLink RX7 91 yX7_heldBy, Cond.instanceMethod yX7_heldBy, Cond.selects RX7 yX7_heldBy yX7_heldBy, Cond.code yX7_heldBy cX7_heldBy 3 (some .int), Cond.methodLink RX7 87 yX7_withReach, Cond.instanceMethod yX7_withReach, Cond.selects RX7 yX7_withReach yX7_withReach, Cond.code yX7_withReach cX7_withReach 8 (some .int), Cond.methodLink RX7 83 yX7_ownReach, Cond.instanceMethod yX7_ownReach, Cond.selects RX7 yX7_ownReach yX7_ownReach, Cond.code yX7_ownReach cX7_ownReach 3 (some .int), Cond.methodLink RX7 94 yX7_heldNow, Cond.instanceMethod yX7_heldNow, Cond.selects RX7 yX7_heldNow yX7_heldNow, Cond.code yX7_heldNow cX7_heldNow 4 (some .int), Cond.methodLink RX7 125 yX7_layClashes, Cond.instanceMethod yX7_layClashes, Cond.selects RX7 yX7_layClashes yX7_layClashes, Cond.code yX7_layClashes cX7_layClashes 3 none, Cond.methodLink RX7 122 yX7_clashing, Cond.instanceMethod yX7_clashing, Cond.selects RX7 yX7_clashing yX7_clashing, Cond.code yX7_clashing cX7_clashing 3 (some .int)]
def wsX7_digest_r4 : List Cond := [Cond.methodLink RX7 131 yX7_causeNow, Cond.instanceMethod yX7_causeNow, Cond.selects RX7 yX7_causeNow yX7_causeNow, Cond.code yX7_causeNow cX7_causeNow 6 (some .int), Cond.methodLink RX7 128 yX7_ones, Cond.static yX7_ones, Cond.code yX7_ones cX7_ones 3 (some .int), Cond.methodLink RX7 137 yX7_cureNow, Cond.instanceMethod yX7_cureNow, Cond.selects RX7 yX7_cureNow yX7_cureNow, Cond.code yX7_cureNow cX7_cureNow 3 (some .int), Cond.methodLink RX7 134 yX7_isClean, Cond.instanceMethod yX7_isClean, Cond.selects RX7 yX7_isClean yX7_isClean, Cond.code yX7_isClean cX7_isClean 4 (some .boolean), Cond.methodLink RX7 147 yX7_howMany, Cond.instanceMethod yX7_howMany, Cond.selects RX7 yX7_howMany yX7_howMany, Cond.code yX7_howMany cX7_howMany 2 (some .int), Cond.fieldLink RX7 80 "PassedDutiesModel" "left" "I", Cond.methodLink RX7 140 yX7_joins, Cond.instanceMethod yX7_joins, Cond.selects RX7 yX7_joins yX7_joins, Cond.code yX7_joins cX7_joins 3 (some .int)]
def wsX7_digest_r5 : List Cond := [Cond.methodLink RX7 143 yX7_clashMany, Cond.instanceMethod yX7_clashMany, Cond.selects RX7 yX7_clashMany yX7_clashMany, Cond.code yX7_clashMany cX7_clashMany 4 (some .int)]
def wsX7_digest : List Cond := .code yX7_digest cX7_digest 2 (some .long) :: ((wsX7_digest_r1 ++ (wsX7_digest_r2 ++ (wsX7_digest_r3 ++ (wsX7_digest_r4 ++ wsX7_digest_r5)))) ++ wsX70)
def wsL_law_r1 : List Cond := [Cond.classLink RL 7 RX6, Cond.instantiable RX6 5, Cond.initialized RX6, Cond.classLink RL 10 RX7, Cond.instantiable RX7 14, Cond.initialized RX7, Cond.methodLink RL 9 yX6_init, Cond.instanceMethod yX6_init, Cond.code yX6_init cX6_init 1 none, Cond.methodLink RX6 3 objectInit, Cond.instanceMethod objectInit, Cond.code objectInit ⟨#[0xb1]⟩ 1 none, Cond.classLink RX6 9 RX2, Cond.instantiable RX2 2, Cond.initialized RX2, Cond.fieldLink RX6 12 "PassedDuties" "page" "LPassedDuties$Page;", Cond.classLink RX6 16 RX0, Cond.instantiable RX0 2, Cond.initialized RX0, Cond.fieldLink RX6 19 "PassedDuties" "book" "LPassedDuties$Book;", Cond.classLink RX6 23 RX3, Cond.instantiable RX3 8, Cond.initialized RX3, Cond.fieldLink RX6 26 "PassedDuties" "parts" "LPassedDuties$Parts;"]
def wsL_law_r2 : List Cond := [Cond.classLink RX6 30 RX5, Cond.instantiable RX5 2, Cond.initialized RX5, Cond.fieldLink RX6 35 "PassedDuties" "ways" "LPassedDuties$Ways;", Cond.classLink RX6 39 RX1, Cond.instantiable RX1 4, Cond.initialized RX1, Cond.fieldLink RX6 42 "PassedDuties" "clashes" "LPassedDuties$Clashes;", Cond.instanceMethod yX2_init, Cond.code yX2_init cX2_init 1 none, Cond.methodLink RX2 3 objectInit, Cond.arrayClass .int, Cond.fieldLink RX2 9 "PassedDuties$Page" "codes" "[I", Cond.fieldLink RX2 15 "PassedDuties$Page" "length" "I", Cond.instanceMethod yX0_init, Cond.code yX0_init cX0_init 1 none, Cond.methodLink RX0 3 objectInit, Cond.arrayClass .long, Cond.fieldLink RX0 9 "PassedDuties$Book" "rows" "[J", Cond.fieldLink RX0 15 "PassedDuties$Book" "size" "I", Cond.methodLink RX6 25 yX3_init, Cond.instanceMethod yX3_init, Cond.code yX3_init cX3_init 1 none, Cond.methodLink RX3 3 objectInit]
def wsL_law_r3 : List Cond := [Cond.fieldLink RX3 9 "PassedDuties$Parts" "under" "[I", Cond.fieldLink RX3 15 "PassedDuties$Parts" "own" "[J", Cond.fieldLink RX3 19 "PassedDuties$Parts" "kinds" "[I", Cond.fieldLink RX3 22 "PassedDuties$Parts" "through" "[J", Cond.fieldLink RX3 25 "PassedDuties$Parts" "come" "[J", Cond.fieldLink RX3 28 "PassedDuties$Parts" "there" "I", Cond.fieldLink RX3 32 "PassedDuties$Parts" "timesLeft" "I", Cond.fieldLink RX3 35 "PassedDuties$Parts" "changes" "I", Cond.methodLink RX3 38 yJ7_fill_53178, Cond.static yJ7_fill_53178, Cond.initialized RJ7, Cond.code yJ7_fill_53178 cJ7_fill_53178 4 none, Cond.methodLink RX6 32 yX5_init, Cond.instanceMethod yX5_init, Cond.code yX5_init cX5_init 2 none, Cond.methodLink RX5 3 objectInit, Cond.fieldLink RX5 9 "PassedDuties$Ways" "joinsLeft" "[I", Cond.fieldLink RX5 15 "PassedDuties$Ways" "parts" "LPassedDuties$Parts;", Cond.methodLink RX6 41 yX1_init, Cond.instanceMethod yX1_init, Cond.code yX1_init cX1_init 2 none, Cond.methodLink RX1 3 objectInit, Cond.fieldLink RX1 9 "PassedDuties$Clashes" "bySet" "[J", Cond.fieldLink RX1 15 "PassedDuties$Clashes" "rows" "[J"]
def wsL_law_r4 : List Cond := [Cond.fieldLink RX1 18 "PassedDuties$Clashes" "keptFor" "I", Cond.fieldLink RX1 22 "PassedDuties$Clashes" "parts" "LPassedDuties$Parts;", Cond.methodLink RL 12 yX7_init, Cond.instanceMethod yX7_init, Cond.code yX7_init cX7_init 1 none, Cond.methodLink RX7 1 objectInit, Cond.fieldLink RX7 7 "PassedDutiesModel" "page" "[I", Cond.fieldLink RX7 13 "PassedDutiesModel" "reaches" "[I", Cond.fieldLink RX7 16 "PassedDutiesModel" "termsOf" "[I", Cond.fieldLink RX7 19 "PassedDutiesModel" "kinds" "[I", Cond.fieldLink RX7 22 "PassedDutiesModel" "wayAt" "[I", Cond.fieldLink RX7 25 "PassedDutiesModel" "far" "[I", Cond.fieldLink RX7 28 "PassedDutiesModel" "clashAt" "[I", Cond.methodLink RL 13 yX6_letter, Cond.instanceMethod yX6_letter, Cond.selects RX6 yX6_letter yX6_letter, Cond.code yX6_letter cX6_letter 2 (some .int), Cond.methodLink RX6 50 yX2_write, Cond.instanceMethod yX2_write, Cond.selects RX2 yX2_write yX2_write, Cond.code yX2_write cX2_write 2 (some .int), Cond.methodLink RL 17 yX7_letter, Cond.instanceMethod yX7_letter, Cond.selects RX7 yX7_letter yX7_letter]
def wsL_law_r5 : List Cond := [Cond.code yX7_letter cX7_letter 2 (some .int), Cond.fieldLink RX7 35 "PassedDutiesModel" "pageLength" "I", Cond.methodLink RX7 31 yX7_within, Cond.static yX7_within, Cond.code yX7_within cX7_within 3 (some .boolean), Cond.methodLink RL 18 yX6_blank, Cond.instanceMethod yX6_blank, Cond.selects RX6 yX6_blank yX6_blank, Cond.code yX6_blank cX6_blank 1 (some .int), Cond.methodLink RX6 54 yX2_wipe, Cond.instanceMethod yX2_wipe, Cond.selects RX2 yX2_wipe yX2_wipe, Cond.code yX2_wipe cX2_wipe 2 (some .int), Cond.methodLink RL 22 yX7_blank, Cond.instanceMethod yX7_blank, Cond.selects RX7 yX7_blank yX7_blank, Cond.code yX7_blank cX7_blank 2 (some .int), Cond.methodLink RL 23 yX6_fault, Cond.instanceMethod yX6_fault, Cond.selects RX6 yX6_fault yX6_fault, Cond.code yX6_fault cX6_fault 1 (some .int), Cond.methodLink RX6 58 yX2_firstFault, Cond.instanceMethod yX2_firstFault, Cond.selects RX2 yX2_firstFault yX2_firstFault]
def wsL_law_r6 : List Cond := [Cond.code yX2_firstFault cX2_firstFault 6 (some .int), Cond.methodLink RX2 19 yX2_itemOf, Cond.static yX2_itemOf, Cond.code yX2_itemOf cX2_itemOf 1 (some .int), Cond.methodLink RX2 23 yX2_reachOf, Cond.static yX2_reachOf, Cond.code yX2_reachOf cX2_reachOf 1 (some .int), Cond.static yX6_isSet, Cond.code yX6_isSet cX6_isSet 3 (some .boolean), Cond.methodLink RL 26 yX7_fault, Cond.instanceMethod yX7_fault, Cond.selects RX7 yX7_fault yX7_fault, Cond.code yX7_fault cX7_fault 1 (some .int), Cond.methodLink RX7 43 yX7_readPage, Cond.instanceMethod yX7_readPage, Cond.selects RX7 yX7_readPage yX7_readPage, Cond.code yX7_readPage cX7_readPage 6 (some .int), Cond.methodLink RX7 39 yX7_itemOf, Cond.static yX7_itemOf, Cond.code yX7_itemOf cX7_itemOf 1 (some .int), Cond.methodLink RL 27 yX6_terms, Cond.instanceMethod yX6_terms, Cond.selects RX6 yX6_terms yX6_terms, Cond.code yX6_terms cX6_terms 2 (some .int)]
def wsL_law_r7 : List Cond := [Cond.methodLink RX6 61 yX2_meaning, Cond.instanceMethod yX2_meaning, Cond.selects RX2 yX2_meaning yX2_meaning, Cond.code yX2_meaning cX2_meaning 6 (some .long), Cond.methodLink RX2 30 yX4_rowsFor, Cond.static yX4_rowsFor, Cond.initialized RX4, Cond.code yX4_rowsFor cX4_rowsFor 5 (some .long), Cond.methodLink RX6 65 yX0_numberFor, Cond.instanceMethod yX0_numberFor, Cond.selects RX0 yX0_numberFor yX0_numberFor, Cond.code yX0_numberFor cX0_numberFor 4 (some .int), Cond.methodLink RX0 19 yX0_find, Cond.instanceMethod yX0_find, Cond.selects RX0 yX0_find yX0_find, Cond.code yX0_find cX0_find 4 (some .int), Cond.methodLink RL 30 yX7_terms, Cond.instanceMethod yX7_terms, Cond.selects RX7 yX7_terms yX7_terms, Cond.code yX7_terms cX7_terms 3 (some .int), Cond.fieldLink RX7 47 "PassedDutiesModel" "termsMany" "I", Cond.methodLink RX7 50 yX7_likeRead, Cond.instanceMethod yX7_likeRead, Cond.selects RX7 yX7_likeRead yX7_likeRead]
def wsL_law_r8 : List Cond := [Cond.code yX7_likeRead cX7_likeRead 5 (some .int), Cond.methodLink RL 31 yX6_reach, Cond.instanceMethod yX6_reach, Cond.selects RX6 yX6_reach yX6_reach, Cond.code yX6_reach cX6_reach 3 (some .int), Cond.methodLink RX6 69 yX0_has, Cond.instanceMethod yX0_has, Cond.selects RX0 yX0_has yX0_has, Cond.code yX0_has cX0_has 2 (some .boolean), Cond.methodLink RX6 73 yX6_isItem, Cond.static yX6_isItem, Cond.code yX6_isItem cX6_isItem 1 (some .boolean), Cond.methodLink RX6 80 yX4_greatest, Cond.static yX4_greatest, Cond.code yX4_greatest cX4_greatest 4 (some .int), Cond.methodLink RL 35 yX7_reach, Cond.instanceMethod yX7_reach, Cond.selects RX7 yX7_reach yX7_reach, Cond.code yX7_reach cX7_reach 3 (some .int), Cond.methodLink RX7 53 yX7_isTerms, Cond.instanceMethod yX7_isTerms, Cond.selects RX7 yX7_isTerms yX7_isTerms, Cond.code yX7_isTerms cX7_isTerms 2 (some .boolean), Cond.methodLink RL 36 yX6_two]
def wsL_law_r9 : List Cond := [Cond.instanceMethod yX6_two, Cond.selects RX6 yX6_two yX6_two, Cond.code yX6_two cX6_two 8 (some .int), Cond.methodLink RX6 86 yX4_looser, Cond.static yX4_looser, Cond.code yX4_looser cX4_looser 6 (some .int), Cond.constantLong RX4 13 (-1), Cond.methodLink RX6 90 yX0_find, Cond.methodLink RL 40 yX7_two, Cond.instanceMethod yX7_two, Cond.selects RX7 yX7_two yX7_two, Cond.code yX7_two cX7_two 4 (some .int), Cond.methodLink RX7 57 yX7_isLooser, Cond.instanceMethod yX7_isLooser, Cond.selects RX7 yX7_isLooser yX7_isLooser, Cond.code yX7_isLooser cX7_isLooser 5 (some .boolean), Cond.methodLink RX7 61 yX7_puts, Cond.instanceMethod yX7_puts, Cond.selects RX7 yX7_puts yX7_puts, Cond.code yX7_puts cX7_puts 7 (some .int), Cond.methodLink RL 41 yX6_part, Cond.instanceMethod yX6_part, Cond.selects RX6 yX6_part yX6_part, Cond.code yX6_part cX6_part 3 (some .int)]
def wsL_law_r10 : List Cond := [Cond.methodLink RX6 93 yX3_leastFree, Cond.instanceMethod yX3_leastFree, Cond.selects RX3 yX3_leastFree yX3_leastFree, Cond.code yX3_leastFree cX3_leastFree 2 (some .int), Cond.methodLink RX3 48 yX3_has, Cond.instanceMethod yX3_has, Cond.selects RX3 yX3_has yX3_has, Cond.code yX3_has cX3_has 2 (some .boolean), Cond.methodLink RX6 96 yX3_put, Cond.instanceMethod yX3_put, Cond.selects RX3 yX3_put yX3_put, Cond.code yX3_put cX3_put 5 none, Cond.methodLink RX3 52 yX3_settle, Cond.instanceMethod yX3_settle, Cond.selects RX3 yX3_settle yX3_settle, Cond.code yX3_settle cX3_settle 1 none, Cond.methodLink RX3 87 yX3_spread, Cond.instanceMethod yX3_spread, Cond.selects RX3 yX3_spread yX3_spread, Cond.code yX3_spread cX3_spread 6 none, Cond.methodLink RX3 79 yX3_getsMore, Cond.instanceMethod yX3_getsMore, Cond.selects RX3 yX3_getsMore yX3_getsMore, Cond.code yX3_getsMore cX3_getsMore 8 (some .boolean)]
def wsL_law_r11 : List Cond := [Cond.methodLink RL 44 yX7_part, Cond.instanceMethod yX7_part, Cond.selects RX7 yX7_part yX7_part, Cond.code yX7_part cX7_part 4 (some .int), Cond.fieldLink RX7 65 "PassedDutiesModel" "there" "I", Cond.methodLink RX7 68 yX7_has, Cond.static yX7_has, Cond.code yX7_has cX7_has 2 (some .boolean), Cond.methodLink RL 45 yX6_give, Cond.instanceMethod yX6_give, Cond.selects RX6 yX6_give yX6_give, Cond.code yX6_give cX6_give 4 (some .int), Cond.methodLink RX6 100 yX3_has, Cond.methodLink RL 48 yX7_give, Cond.instanceMethod yX7_give, Cond.selects RX7 yX7_give yX7_give, Cond.code yX7_give cX7_give 4 (some .int), Cond.methodLink RX7 71 yX7_isPart, Cond.instanceMethod yX7_isPart, Cond.selects RX7 yX7_isPart yX7_isPart, Cond.code yX7_isPart cX7_isPart 2 (some .boolean), Cond.methodLink RL 49 yX6_leave, Cond.instanceMethod yX6_leave, Cond.selects RX6 yX6_leave yX6_leave]
def wsL_law_r12 : List Cond := [Cond.code yX6_leave cX6_leave 2 (some .int), Cond.methodLink RX6 105 yX3_remove, Cond.instanceMethod yX3_remove, Cond.selects RX3 yX3_remove yX3_remove, Cond.code yX3_remove cX3_remove 4 (some .int), Cond.methodLink RX3 55 yX3_joinsFrom, Cond.instanceMethod yX3_joinsFrom, Cond.selects RX3 yX3_joinsFrom yX3_joinsFrom, Cond.code yX3_joinsFrom cX3_joinsFrom 4 (some .int), Cond.methodLink RX3 66 yX3_kindOf, Cond.instanceMethod yX3_kindOf, Cond.selects RX3 yX3_kindOf yX3_kindOf, Cond.code yX3_kindOf cX3_kindOf 3 (some .int), Cond.methodLink RX3 59 yX3_joinsTo, Cond.instanceMethod yX3_joinsTo, Cond.selects RX3 yX3_joinsTo yX3_joinsTo, Cond.code yX3_joinsTo cX3_joinsTo 4 (some .int), Cond.methodLink RX3 62 yX3_setJoin, Cond.instanceMethod yX3_setJoin, Cond.selects RX3 yX3_setJoin yX3_setJoin, Cond.code yX3_setJoin cX3_setJoin 4 none, Cond.methodLink RX3 83 yX4_letThrough, Cond.static yX4_letThrough, Cond.code yX4_letThrough cX4_letThrough 1 (some .long)]
def wsL_law_r13 : List Cond := [Cond.constantLong RX4 21 (68719476735), Cond.methodLink RL 52 yX7_leave, Cond.instanceMethod yX7_leave, Cond.selects RX7 yX7_leave yX7_leave, Cond.code yX7_leave cX7_leave 3 (some .int), Cond.fieldLink RX7 80 "PassedDutiesModel" "left" "I", Cond.methodLink RX7 74 yX7_usesOf, Cond.instanceMethod yX7_usesOf, Cond.selects RX7 yX7_usesOf yX7_usesOf, Cond.code yX7_usesOf cX7_usesOf 4 (some .int), Cond.methodLink RX7 77 yX7_usersOf, Cond.instanceMethod yX7_usersOf, Cond.selects RX7 yX7_usersOf yX7_usersOf, Cond.code yX7_usersOf cX7_usersOf 4 (some .int), Cond.methodLink RL 53 yX6_join, Cond.instanceMethod yX6_join, Cond.selects RX6 yX6_join yX6_join, Cond.code yX6_join cX6_join 5 (some .int), Cond.methodLink RX6 108 yX3_kindOf, Cond.methodLink RX6 112 yX3_setKind, Cond.instanceMethod yX3_setKind, Cond.selects RX3 yX3_setKind yX3_setKind, Cond.code yX3_setKind cX3_setKind 4 none, Cond.methodLink RL 56 yX7_join]
def wsL_law_r14 : List Cond := [Cond.instanceMethod yX7_join, Cond.selects RX7 yX7_join yX7_join, Cond.code yX7_join cX7_join 5 (some .int), Cond.methodLink RL 57 yX6_kind, Cond.instanceMethod yX6_kind, Cond.selects RX6 yX6_kind yX6_kind, Cond.code yX6_kind cX6_kind 3 (some .int), Cond.methodLink RL 60 yX7_kind, Cond.instanceMethod yX7_kind, Cond.selects RX7 yX7_kind yX7_kind, Cond.code yX7_kind cX7_kind 3 (some .int), Cond.methodLink RL 61 yX6_of, Cond.instanceMethod yX6_of, Cond.selects RX6 yX6_of yX6_of, Cond.code yX6_of cX6_of 3 (some .int), Cond.methodLink RX6 119 yX4_duties, Cond.static yX4_duties, Cond.code yX4_duties cX4_duties 2 (some .int), Cond.methodLink RX4 15 yX4_itemsIn, Cond.static yX4_itemsIn, Cond.code yX4_itemsIn cX4_itemsIn 2 (some .int), Cond.methodLink RX6 122 yX4_bars, Cond.static yX4_bars, Cond.code yX4_bars cX4_bars 2 (some .int)]
def wsL_law_r15 : List Cond := [Cond.methodLink RX6 125 yX4_meeting, Cond.static yX4_meeting, Cond.code yX4_meeting cX4_meeting 3 (some .int), Cond.methodLink RX6 128 yX3_namesOf, Cond.instanceMethod yX3_namesOf, Cond.selects RX3 yX3_namesOf yX3_namesOf, Cond.code yX3_namesOf cX3_namesOf 5 (some .int), Cond.methodLink RX3 76 yX3_namedBy, Cond.instanceMethod yX3_namedBy, Cond.selects RX3 yX3_namedBy yX3_namedBy, Cond.code yX3_namedBy cX3_namedBy 5 (some .int), Cond.methodLink RX6 131 yX3_joinsFrom, Cond.methodLink RX6 134 yX3_joinsTo, Cond.methodLink RL 64 yX7_of, Cond.instanceMethod yX7_of, Cond.selects RX7 yX7_of yX7_of, Cond.code yX7_of cX7_of 3 (some .int), Cond.methodLink RX7 116 yX7_partNow, Cond.instanceMethod yX7_partNow, Cond.selects RX7 yX7_partNow yX7_partNow, Cond.code yX7_partNow cX7_partNow 3 (some .int), Cond.methodLink RX7 110 yX7_namesOf, Cond.instanceMethod yX7_namesOf, Cond.selects RX7 yX7_namesOf yX7_namesOf]
def wsL_law_r16 : List Cond := [Cond.code yX7_namesOf cX7_namesOf 6 (some .int), Cond.methodLink RX7 97 yX7_isLet, Cond.instanceMethod yX7_isLet, Cond.selects RX7 yX7_isLet yX7_isLet, Cond.code yX7_isLet cX7_isLet 5 (some .boolean), Cond.methodLink RX7 113 yX7_actsOf, Cond.instanceMethod yX7_actsOf, Cond.selects RX7 yX7_actsOf yX7_actsOf, Cond.code yX7_actsOf cX7_actsOf 8 (some .int), Cond.methodLink RX7 91 yX7_heldBy, Cond.instanceMethod yX7_heldBy, Cond.selects RX7 yX7_heldBy yX7_heldBy, Cond.code yX7_heldBy cX7_heldBy 3 (some .int), Cond.methodLink RX7 87 yX7_withReach, Cond.instanceMethod yX7_withReach, Cond.selects RX7 yX7_withReach yX7_withReach, Cond.code yX7_withReach cX7_withReach 8 (some .int), Cond.methodLink RX7 83 yX7_ownReach, Cond.instanceMethod yX7_ownReach, Cond.selects RX7 yX7_ownReach yX7_ownReach, Cond.code yX7_ownReach cX7_ownReach 3 (some .int), Cond.methodLink RL 65 yX6_held, Cond.instanceMethod yX6_held, Cond.selects RX6 yX6_held yX6_held]
def wsL_law_r17 : List Cond := [Cond.code yX6_held cX6_held 3 (some .int), Cond.methodLink RX6 137 yX3_reachHeld, Cond.instanceMethod yX3_reachHeld, Cond.selects RX3 yX3_reachHeld yX3_reachHeld, Cond.code yX3_reachHeld cX3_reachHeld 3 (some .int), Cond.methodLink RX3 70 yX4_greatest, Cond.methodLink RL 68 yX7_held, Cond.instanceMethod yX7_held, Cond.selects RX7 yX7_held yX7_held, Cond.code yX7_held cX7_held 3 (some .int), Cond.methodLink RX7 94 yX7_heldNow, Cond.instanceMethod yX7_heldNow, Cond.selects RX7 yX7_heldNow yX7_heldNow, Cond.code yX7_heldNow cX7_heldNow 4 (some .int), Cond.methodLink RL 69 yX6_way, Cond.instanceMethod yX6_way, Cond.selects RX6 yX6_way yX6_way, Cond.code yX6_way cX6_way 4 (some .int), Cond.methodLink RX6 140 yX5_partAt, Cond.instanceMethod yX5_partAt, Cond.selects RX5 yX5_partAt yX5_partAt, Cond.code yX5_partAt cX5_partAt 7 (some .int), Cond.methodLink RX5 19 yX3_reachHeld, Cond.methodLink RX5 25 yX5_measure]
def wsL_law_r18 : List Cond := [Cond.instanceMethod yX5_measure, Cond.selects RX5 yX5_measure yX5_measure, Cond.code yX5_measure cX5_measure 5 none, Cond.methodLink RX5 33 yX3_has, Cond.methodLink RX5 41 yX4_greatest, Cond.methodLink RX5 29 yX5_nearer, Cond.instanceMethod yX5_nearer, Cond.selects RX5 yX5_nearer yX5_nearer, Cond.code yX5_nearer cX5_nearer 5 (some .int), Cond.methodLink RX5 47 yX3_lets, Cond.instanceMethod yX3_lets, Cond.selects RX3 yX3_lets yX3_lets, Cond.code yX3_lets cX3_lets 5 (some .boolean), Cond.methodLink RL 72 yX7_way, Cond.instanceMethod yX7_way, Cond.selects RX7 yX7_way yX7_way, Cond.code yX7_way cX7_way 4 (some .int), Cond.fieldLink RX7 100 "PassedDutiesModel" "wayMany" "I", Cond.methodLink RX7 107 yX7_layWay, Cond.instanceMethod yX7_layWay, Cond.selects RX7 yX7_layWay yX7_layWay, Cond.code yX7_layWay cX7_layWay 6 none, Cond.methodLink RX7 103 yX7_layFar, Cond.instanceMethod yX7_layFar]
def wsL_law_r19 : List Cond := [Cond.selects RX7 yX7_layFar yX7_layFar, Cond.code yX7_layFar cX7_layFar 5 none, Cond.methodLink RL 73 yX6_clash, Cond.instanceMethod yX6_clash, Cond.selects RX6 yX6_clash yX6_clash, Cond.code yX6_clash cX6_clash 3 (some .int), Cond.methodLink RX6 144 yX1_at, Cond.instanceMethod yX1_at, Cond.selects RX1 yX1_at yX1_at, Cond.code yX1_at cX1_at 6 (some .int), Cond.methodLink RX1 41 yX1_now, Cond.instanceMethod yX1_now, Cond.selects RX1 yX1_now yX1_now, Cond.code yX1_now cX1_now 1 (some .long), Cond.methodLink RX1 31 yX1_meetings, Cond.static yX1_meetings, Cond.code yX1_meetings cX1_meetings 4 (some .long), Cond.methodLink RX1 35 yX4_meeting, Cond.methodLink RL 76 yX7_clash, Cond.instanceMethod yX7_clash, Cond.selects RX7 yX7_clash yX7_clash, Cond.code yX7_clash cX7_clash 2 (some .int), Cond.fieldLink RX7 119 "PassedDutiesModel" "clashes" "I", Cond.methodLink RX7 125 yX7_layClashes]
def wsL_law_r20 : List Cond := [Cond.instanceMethod yX7_layClashes, Cond.selects RX7 yX7_layClashes yX7_layClashes, Cond.code yX7_layClashes cX7_layClashes 3 none, Cond.methodLink RX7 122 yX7_clashing, Cond.instanceMethod yX7_clashing, Cond.selects RX7 yX7_clashing yX7_clashing, Cond.code yX7_clashing cX7_clashing 3 (some .int), Cond.methodLink RL 77 yX6_cause, Cond.instanceMethod yX6_cause, Cond.selects RX6 yX6_cause yX6_cause, Cond.code yX6_cause cX6_cause 3 (some .int), Cond.methodLink RX6 147 yX1_fewestFor, Cond.instanceMethod yX1_fewestFor, Cond.selects RX1 yX1_fewestFor yX1_fewestFor, Cond.code yX1_fewestFor cX1_fewestFor 4 (some .int), Cond.methodLink RX1 49 yX1_keepAll, Cond.instanceMethod yX1_keepAll, Cond.selects RX1 yX1_keepAll yX1_keepAll, Cond.code yX1_keepAll cX1_keepAll 2 none, Cond.methodLink RX1 68 yX3_spread, Cond.methodLink RX1 55 yX1_isFewer, Cond.instanceMethod yX1_isFewer, Cond.selects RX1 yX1_isFewer yX1_isFewer, Cond.code yX1_isFewer cX1_isFewer 3 (some .boolean)]
def wsL_law_r21 : List Cond := [Cond.methodLink RX1 59 yJ6_bitCount_0f7a4, Cond.static yJ6_bitCount_0f7a4, Cond.initialized RJ6, Cond.code yJ6_bitCount_0f7a4 cJ6_bitCount_0f7a4 1 (some .int), Cond.constant RJ6 265 (1431655765), Cond.constant RJ6 266 (858993459), Cond.constant RJ6 267 (252645135), Cond.methodLink RL 80 yX7_cause, Cond.instanceMethod yX7_cause, Cond.selects RX7 yX7_cause yX7_cause, Cond.code yX7_cause cX7_cause 3 (some .int), Cond.methodLink RX7 131 yX7_causeNow, Cond.instanceMethod yX7_causeNow, Cond.selects RX7 yX7_causeNow yX7_causeNow, Cond.code yX7_causeNow cX7_causeNow 6 (some .int), Cond.methodLink RX7 128 yX7_ones, Cond.static yX7_ones, Cond.code yX7_ones cX7_ones 3 (some .int), Cond.methodLink RL 81 yX6_cure, Cond.instanceMethod yX6_cure, Cond.selects RX6 yX6_cure yX6_cure, Cond.code yX6_cure cX6_cure 1 (some .int), Cond.methodLink RX6 150 yX1_fewestToLeave, Cond.instanceMethod yX1_fewestToLeave]
def wsL_law_r22 : List Cond := [Cond.selects RX1 yX1_fewestToLeave yX1_fewestToLeave, Cond.code yX1_fewestToLeave cX1_fewestToLeave 3 (some .int), Cond.methodLink RL 84 yX7_cure, Cond.instanceMethod yX7_cure, Cond.selects RX7 yX7_cure yX7_cure, Cond.code yX7_cure cX7_cure 1 (some .int), Cond.methodLink RX7 137 yX7_cureNow, Cond.instanceMethod yX7_cureNow, Cond.selects RX7 yX7_cureNow yX7_cureNow, Cond.code yX7_cureNow cX7_cureNow 3 (some .int), Cond.methodLink RX7 134 yX7_isClean, Cond.instanceMethod yX7_isClean, Cond.selects RX7 yX7_isClean yX7_isClean, Cond.code yX7_isClean cX7_isClean 4 (some .boolean), Cond.methodLink RL 85 yX6_count, Cond.instanceMethod yX6_count, Cond.selects RX6 yX6_count yX6_count, Cond.code yX6_count cX6_count 2 (some .int), Cond.methodLink RX6 159 yJ6_bitCount_0f7a4, Cond.methodLink RX6 164 yX3_joins, Cond.instanceMethod yX3_joins, Cond.selects RX3 yX3_joins yX3_joins, Cond.code yX3_joins cX3_joins 3 (some .int), Cond.methodLink RX6 167 yX1_now]
def wsL_law_r23 : List Cond := [Cond.methodLink RX6 170 yJ13_bitCount_95d88, Cond.static yJ13_bitCount_95d88, Cond.initialized RJ13, Cond.code yJ13_bitCount_95d88 cJ13_bitCount_95d88 2 (some .int), Cond.constantLong RJ13 314 (6148914691236517205), Cond.constantLong RJ13 316 (3689348814741910323), Cond.constantLong RJ13 318 (1085102592571150095), Cond.methodLink RX6 174 yX1_partsNow, Cond.instanceMethod yX1_partsNow, Cond.selects RX1 yX1_partsNow yX1_partsNow, Cond.code yX1_partsNow cX1_partsNow 3 (some .int), Cond.methodLink RL 88 yX7_count, Cond.instanceMethod yX7_count, Cond.selects RX7 yX7_count yX7_count, Cond.code yX7_count cX7_count 2 (some .int), Cond.methodLink RX7 147 yX7_howMany, Cond.instanceMethod yX7_howMany, Cond.selects RX7 yX7_howMany yX7_howMany, Cond.code yX7_howMany cX7_howMany 2 (some .int), Cond.methodLink RX7 140 yX7_joins, Cond.instanceMethod yX7_joins, Cond.selects RX7 yX7_joins yX7_joins, Cond.code yX7_joins cX7_joins 3 (some .int), Cond.methodLink RX7 143 yX7_clashMany]
def wsL_law_r24 : List Cond := [Cond.instanceMethod yX7_clashMany, Cond.selects RX7 yX7_clashMany yX7_clashMany, Cond.code yX7_clashMany cX7_clashMany 4 (some .int), Cond.methodLink RL 89 yX6_digest, Cond.instanceMethod yX6_digest, Cond.selects RX6 yX6_digest yX6_digest, Cond.code yX6_digest cX6_digest 4 (some .long), Cond.constantLong RX6 180 (1697), Cond.methodLink RX6 182 yX6_withTerms, Cond.instanceMethod yX6_withTerms, Cond.selects RX6 yX6_withTerms yX6_withTerms, Cond.code yX6_withTerms cX6_withTerms 7 (some .long), Cond.methodLink RX6 206 yX6_reach, Cond.methodLink RX6 196 yX6_mix, Cond.static yX6_mix, Cond.code yX6_mix cX6_mix 4 (some .long), Cond.constantLong RX6 222 (31), Cond.methodLink RX6 186 yX6_withPart, Cond.instanceMethod yX6_withPart, Cond.selects RX6 yX6_withPart yX6_withPart, Cond.code yX6_withPart cX6_withPart 7 (some .long), Cond.methodLink RX6 209 yX6_of, Cond.methodLink RX6 212 yX6_held, Cond.methodLink RX6 215 yX6_kind]
def wsL_law_r25 : List Cond := [Cond.methodLink RX6 190 yX6_withClashes, Cond.instanceMethod yX6_withClashes, Cond.selects RX6 yX6_withClashes yX6_withClashes, Cond.code yX6_withClashes cX6_withClashes 8 (some .long), Cond.methodLink RX6 218 yX6_isSet, Cond.methodLink RX6 193 yX6_cure, Cond.methodLink RX6 203 yX6_count, Cond.methodLink RL 93 yX7_digest, Cond.instanceMethod yX7_digest, Cond.selects RX7 yX7_digest yX7_digest, Cond.code yX7_digest cX7_digest 2 (some .long), Cond.constantLong RX7 160 (1697), Cond.fieldLink RX7 152 "PassedDutiesModel" "h" "J", Cond.methodLink RX7 156 yX7_mix, Cond.instanceMethod yX7_mix, Cond.selects RX7 yX7_mix yX7_mix, Cond.code yX7_mix cX7_mix 3 none, Cond.constantLong RX7 150 (31), Cond.methodLink RX7 162 yX7_mixPart, Cond.instanceMethod yX7_mixPart, Cond.selects RX7 yX7_mixPart yX7_mixPart, Cond.code yX7_mixPart cX7_mixPart 3 none]
def wsL_law : List Cond := (wsL_law_r1 ++ (wsL_law_r2 ++ (wsL_law_r3 ++ (wsL_law_r4 ++ (wsL_law_r5 ++ (wsL_law_r6 ++ (wsL_law_r7 ++ (wsL_law_r8 ++ (wsL_law_r9 ++ (wsL_law_r10 ++ (wsL_law_r11 ++ (wsL_law_r12 ++ (wsL_law_r13 ++ (wsL_law_r14 ++ (wsL_law_r15 ++ (wsL_law_r16 ++ (wsL_law_r17 ++ (wsL_law_r18 ++ (wsL_law_r19 ++ (wsL_law_r20 ++ (wsL_law_r21 ++ (wsL_law_r22 ++ (wsL_law_r23 ++ (wsL_law_r24 ++ wsL_law_r25)))))))))))))))))))))))) ++ wsX60 ++ wsX70 ++ wsX20 ++ wsX00 ++ wsX30 ++ wsX50 ++ wsX10 ++ ([] : List Cond)
end
section
theorem dX0_init_0 : decode cX0_init 0 = .ok (.aload_n 0, 1) := by decide +kernel
theorem dX0_init_1 : decode cX0_init 1 = .ok (.invokespecial 3, 3) := by decide +kernel
theorem dX0_init_4 : decode cX0_init 4 = .ok (.aload_n 0, 1) := by decide +kernel
theorem dX0_init_5 : decode cX0_init 5 = .ok (.bipush 8, 2) := by decide +kernel
theorem dX0_init_7 : decode cX0_init 7 = .ok (.newarray .long, 2) := by decide +kernel
theorem dX0_init_9 : decode cX0_init 9 = .ok (.putfield 9, 3) := by decide +kernel
theorem dX0_init_12 : decode cX0_init 12 = .ok (.aload_n 0, 1) := by decide +kernel
theorem dX0_init_13 : decode cX0_init 13 = .ok (.iconst 0, 1) := by decide +kernel
theorem dX0_init_14 : decode cX0_init 14 = .ok (.putfield 15, 3) := by decide +kernel
theorem dX0_init_17 : decode cX0_init 17 = .ok (.return_, 1) := by decide +kernel
theorem dX0_has_0 : decode cX0_has 0 = .ok (.iload_n 1, 1) := by decide +kernel
theorem dX0_has_1 : decode cX0_has 1 = .ok (.ifCond .lt 15, 3) := by decide +kernel
theorem dX0_has_4 : decode cX0_has 4 = .ok (.iload_n 1, 1) := by decide +kernel
theorem dX0_has_5 : decode cX0_has 5 = .ok (.aload_n 0, 1) := by decide +kernel
theorem dX0_has_6 : decode cX0_has 6 = .ok (.getfield 15, 3) := by decide +kernel
theorem dX0_has_9 : decode cX0_has 9 = .ok (.if_icmp .ge 7, 3) := by decide +kernel
theorem dX0_has_12 : decode cX0_has 12 = .ok (.iconst 1, 1) := by decide +kernel
theorem dX0_has_13 : decode cX0_has 13 = .ok (.goto 4, 3) := by decide +kernel
theorem dX0_has_16 : decode cX0_has 16 = .ok (.iconst 0, 1) := by decide +kernel
theorem dX0_has_17 : decode cX0_has 17 = .ok (.ireturn, 1) := by decide +kernel
theorem dX0_find_0 : decode cX0_find 0 = .ok (.iconst 0, 1) := by decide +kernel
theorem dX0_find_1 : decode cX0_find 1 = .ok (.istore_n 3, 1) := by decide +kernel
theorem dX0_find_2 : decode cX0_find 2 = .ok (.iload_n 3, 1) := by decide +kernel
theorem dX0_find_3 : decode cX0_find 3 = .ok (.aload_n 0, 1) := by decide +kernel
theorem dX0_find_4 : decode cX0_find 4 = .ok (.getfield 15, 3) := by decide +kernel
theorem dX0_find_7 : decode cX0_find 7 = .ok (.if_icmp .ge 22, 3) := by decide +kernel
theorem dX0_find_10 : decode cX0_find 10 = .ok (.aload_n 0, 1) := by decide +kernel
theorem dX0_find_11 : decode cX0_find 11 = .ok (.getfield 9, 3) := by decide +kernel
theorem dX0_find_14 : decode cX0_find 14 = .ok (.iload_n 3, 1) := by decide +kernel
theorem dX0_find_15 : decode cX0_find 15 = .ok (.laload, 1) := by decide +kernel
theorem dX0_find_16 : decode cX0_find 16 = .ok (.lload_n 1, 1) := by decide +kernel
theorem dX0_find_17 : decode cX0_find 17 = .ok (.lcmp, 1) := by decide +kernel
theorem dX0_find_18 : decode cX0_find 18 = .ok (.ifCond .ne 5, 3) := by decide +kernel
theorem dX0_find_21 : decode cX0_find 21 = .ok (.iload_n 3, 1) := by decide +kernel
theorem dX0_find_22 : decode cX0_find 22 = .ok (.ireturn, 1) := by decide +kernel
theorem dX0_find_23 : decode cX0_find 23 = .ok (.iinc 3 1, 3) := by decide +kernel
theorem dX0_find_26 : decode cX0_find 26 = .ok (.goto (-24), 3) := by decide +kernel
theorem dX0_find_29 : decode cX0_find 29 = .ok (.iconst (-1), 1) := by decide +kernel
theorem dX0_find_30 : decode cX0_find 30 = .ok (.ireturn, 1) := by decide +kernel
set_option maxRecDepth 20000 in
theorem ggX0_numberFor_X0_find : GoodIn wsX0_numberFor wsX0_find := goodIn_r _ [7, 1, 2, 8, 9] (by decide +kernel) (by decide +kernel)
set_option maxRecDepth 20000 in
theorem gX0_numberFor_X0_find : GoodIn wsX0_numberFor (wsV RX0 19 RX0 yX0_find wsX0_find) := goodIn_app (goodIn_of _ (by decide +kernel)) ggX0_numberFor_X0_find
theorem dX0_numberFor_0 : decode cX0_numberFor 0 = .ok (.aload_n 0, 1) := by decide +kernel
theorem dX0_numberFor_1 : decode cX0_numberFor 1 = .ok (.lload_n 1, 1) := by decide +kernel
theorem dX0_numberFor_2 : decode cX0_numberFor 2 = .ok (.invokevirtual 19, 3) := by decide +kernel
theorem dX0_numberFor_5 : decode cX0_numberFor 5 = .ok (.istore_n 3, 1) := by decide +kernel
theorem dX0_numberFor_6 : decode cX0_numberFor 6 = .ok (.iload_n 3, 1) := by decide +kernel
theorem dX0_numberFor_7 : decode cX0_numberFor 7 = .ok (.iconst (-1), 1) := by decide +kernel
theorem dX0_numberFor_8 : decode cX0_numberFor 8 = .ok (.if_icmp .ne 12, 3) := by decide +kernel
theorem dX0_numberFor_11 : decode cX0_numberFor 11 = .ok (.aload_n 0, 1) := by decide +kernel
theorem dX0_numberFor_12 : decode cX0_numberFor 12 = .ok (.getfield 15, 3) := by decide +kernel
theorem dX0_numberFor_15 : decode cX0_numberFor 15 = .ok (.bipush 8, 2) := by decide +kernel
theorem dX0_numberFor_17 : decode cX0_numberFor 17 = .ok (.if_icmp .lt 5, 3) := by decide +kernel
theorem dX0_numberFor_20 : decode cX0_numberFor 20 = .ok (.iload_n 3, 1) := by decide +kernel
theorem dX0_numberFor_21 : decode cX0_numberFor 21 = .ok (.ireturn, 1) := by decide +kernel
theorem dX0_numberFor_22 : decode cX0_numberFor 22 = .ok (.aload_n 0, 1) := by decide +kernel
theorem dX0_numberFor_23 : decode cX0_numberFor 23 = .ok (.getfield 9, 3) := by decide +kernel
theorem dX0_numberFor_26 : decode cX0_numberFor 26 = .ok (.aload_n 0, 1) := by decide +kernel
theorem dX0_numberFor_27 : decode cX0_numberFor 27 = .ok (.getfield 15, 3) := by decide +kernel
theorem dX0_numberFor_30 : decode cX0_numberFor 30 = .ok (.lload_n 1, 1) := by decide +kernel
theorem dX0_numberFor_31 : decode cX0_numberFor 31 = .ok (.lastore, 1) := by decide +kernel
theorem dX0_numberFor_32 : decode cX0_numberFor 32 = .ok (.aload_n 0, 1) := by decide +kernel
theorem dX0_numberFor_33 : decode cX0_numberFor 33 = .ok (.dup, 1) := by decide +kernel
theorem dX0_numberFor_34 : decode cX0_numberFor 34 = .ok (.getfield 15, 3) := by decide +kernel
theorem dX0_numberFor_37 : decode cX0_numberFor 37 = .ok (.iconst 1, 1) := by decide +kernel
theorem dX0_numberFor_38 : decode cX0_numberFor 38 = .ok (.iadd, 1) := by decide +kernel
theorem dX0_numberFor_39 : decode cX0_numberFor 39 = .ok (.putfield 15, 3) := by decide +kernel
theorem dX0_numberFor_42 : decode cX0_numberFor 42 = .ok (.aload_n 0, 1) := by decide +kernel
theorem dX0_numberFor_43 : decode cX0_numberFor 43 = .ok (.getfield 15, 3) := by decide +kernel
theorem dX0_numberFor_46 : decode cX0_numberFor 46 = .ok (.iconst 1, 1) := by decide +kernel
theorem dX0_numberFor_47 : decode cX0_numberFor 47 = .ok (.isub, 1) := by decide +kernel
theorem dX0_numberFor_48 : decode cX0_numberFor 48 = .ok (.ireturn, 1) := by decide +kernel
theorem dX1_init_0 : decode cX1_init 0 = .ok (.aload_n 0, 1) := by decide +kernel
theorem dX1_init_1 : decode cX1_init 1 = .ok (.invokespecial 3, 3) := by decide +kernel
theorem dX1_init_4 : decode cX1_init 4 = .ok (.aload_n 0, 1) := by decide +kernel
theorem dX1_init_5 : decode cX1_init 5 = .ok (.sipush 256, 3) := by decide +kernel
theorem dX1_init_8 : decode cX1_init 8 = .ok (.newarray .long, 2) := by decide +kernel
theorem dX1_init_10 : decode cX1_init 10 = .ok (.putfield 9, 3) := by decide +kernel
theorem dX1_init_13 : decode cX1_init 13 = .ok (.aload_n 0, 1) := by decide +kernel
theorem dX1_init_14 : decode cX1_init 14 = .ok (.bipush 8, 2) := by decide +kernel
theorem dX1_init_16 : decode cX1_init 16 = .ok (.newarray .long, 2) := by decide +kernel
theorem dX1_init_18 : decode cX1_init 18 = .ok (.putfield 15, 3) := by decide +kernel
theorem dX1_init_21 : decode cX1_init 21 = .ok (.aload_n 0, 1) := by decide +kernel
theorem dX1_init_22 : decode cX1_init 22 = .ok (.iconst (-1), 1) := by decide +kernel
theorem dX1_init_23 : decode cX1_init 23 = .ok (.putfield 18, 3) := by decide +kernel
theorem dX1_init_26 : decode cX1_init 26 = .ok (.aload_n 0, 1) := by decide +kernel
theorem dX1_init_27 : decode cX1_init 27 = .ok (.aload_n 1, 1) := by decide +kernel
theorem dX1_init_28 : decode cX1_init 28 = .ok (.putfield 22, 3) := by decide +kernel
theorem dX1_init_31 : decode cX1_init 31 = .ok (.return_, 1) := by decide +kernel
set_option maxRecDepth 20000 in
theorem ggX1_now_X1_meetings : GoodIn wsX1_now wsX1_meetings := goodIn_r _ [5, 6, 7, 8, 9, 10, 11, 12] (by decide +kernel) (by decide +kernel)
set_option maxRecDepth 20000 in
theorem gX1_now_X1_meetings : GoodIn wsX1_now (va_wsS RX1 31 yX1_meetings wsX1_meetings) := goodIn_app (goodIn_of _ (by decide +kernel)) ggX1_now_X1_meetings
theorem dX1_now_0 : decode cX1_now 0 = .ok (.aload_n 0, 1) := by decide +kernel
theorem dX1_now_1 : decode cX1_now 1 = .ok (.getfield 22, 3) := by decide +kernel
theorem dX1_now_4 : decode cX1_now 4 = .ok (.getfield 26, 3) := by decide +kernel
theorem dX1_now_7 : decode cX1_now 7 = .ok (.invokestatic 31, 3) := by decide +kernel
theorem dX1_now_10 : decode cX1_now 10 = .ok (.lreturn, 1) := by decide +kernel
set_option maxRecDepth 20000 in
theorem ggX1_partsNow_X4_meeting : GoodIn wsX1_partsNow wsX4_meeting := goodIn_r _ [5, 6, 7, 4, 8] (by decide +kernel) (by decide +kernel)
set_option maxRecDepth 20000 in
theorem gX1_partsNow_X4_meeting : GoodIn wsX1_partsNow (va_wsS RX1 35 yX4_meeting wsX4_meeting) := goodIn_app (goodIn_of _ (by decide +kernel)) ggX1_partsNow_X4_meeting
theorem dX1_partsNow_0 : decode cX1_partsNow 0 = .ok (.iconst 0, 1) := by decide +kernel
theorem dX1_partsNow_1 : decode cX1_partsNow 1 = .ok (.istore_n 1, 1) := by decide +kernel
theorem dX1_partsNow_2 : decode cX1_partsNow 2 = .ok (.iconst 0, 1) := by decide +kernel
theorem dX1_partsNow_3 : decode cX1_partsNow 3 = .ok (.istore_n 2, 1) := by decide +kernel
theorem dX1_partsNow_4 : decode cX1_partsNow 4 = .ok (.iload_n 2, 1) := by decide +kernel
theorem dX1_partsNow_5 : decode cX1_partsNow 5 = .ok (.bipush 8, 2) := by decide +kernel
theorem dX1_partsNow_7 : decode cX1_partsNow 7 = .ok (.if_icmp .ge 32, 3) := by decide +kernel
theorem dX1_partsNow_10 : decode cX1_partsNow 10 = .ok (.iload_n 1, 1) := by decide +kernel
theorem dX1_partsNow_11 : decode cX1_partsNow 11 = .ok (.aload_n 0, 1) := by decide +kernel
theorem dX1_partsNow_12 : decode cX1_partsNow 12 = .ok (.getfield 22, 3) := by decide +kernel
theorem dX1_partsNow_15 : decode cX1_partsNow 15 = .ok (.getfield 26, 3) := by decide +kernel
theorem dX1_partsNow_18 : decode cX1_partsNow 18 = .ok (.iload_n 2, 1) := by decide +kernel
theorem dX1_partsNow_19 : decode cX1_partsNow 19 = .ok (.laload, 1) := by decide +kernel
theorem dX1_partsNow_20 : decode cX1_partsNow 20 = .ok (.invokestatic 35, 3) := by decide +kernel
theorem dX1_partsNow_23 : decode cX1_partsNow 23 = .ok (.ifCond .eq 7, 3) := by decide +kernel
theorem dX1_partsNow_26 : decode cX1_partsNow 26 = .ok (.iconst 1, 1) := by decide +kernel
theorem dX1_partsNow_27 : decode cX1_partsNow 27 = .ok (.goto 4, 3) := by decide +kernel
theorem dX1_partsNow_30 : decode cX1_partsNow 30 = .ok (.iconst 0, 1) := by decide +kernel
theorem dX1_partsNow_31 : decode cX1_partsNow 31 = .ok (.iadd, 1) := by decide +kernel
theorem dX1_partsNow_32 : decode cX1_partsNow 32 = .ok (.istore_n 1, 1) := by decide +kernel
theorem dX1_partsNow_33 : decode cX1_partsNow 33 = .ok (.iinc 2 1, 3) := by decide +kernel
theorem dX1_partsNow_36 : decode cX1_partsNow 36 = .ok (.goto (-32), 3) := by decide +kernel
theorem dX1_partsNow_39 : decode cX1_partsNow 39 = .ok (.iload_n 1, 1) := by decide +kernel
theorem dX1_partsNow_40 : decode cX1_partsNow 40 = .ok (.ireturn, 1) := by decide +kernel
set_option maxRecDepth 20000 in
theorem ggX1_at_X1_now : GoodIn wsX1_at wsX1_now := goodIn_r _ [5, 6, 7, 8, 4, 9, 10, 11, 12, 13, 14, 15, 16, 20, 21, 22, 23, 24, 25, 26, 27, 28, 29, 30, 31] (by decide +kernel) (by decide +kernel)
set_option maxRecDepth 20000 in
theorem gX1_at_X1_now : GoodIn wsX1_at (wsV RX1 41 RX1 yX1_now wsX1_now) := goodIn_app (goodIn_of _ (by decide +kernel)) ggX1_at_X1_now
set_option maxRecDepth 20000 in
theorem ggX1_at_X6_isSet : GoodIn wsX1_at wsX6_isSet := goodIn_r _ [19] (by decide +kernel) (by decide +kernel)
set_option maxRecDepth 20000 in
theorem gX1_at_X6_isSet_n45 : GoodIn wsX1_at (wsX6_isSet) := ggX1_at_X6_isSet
theorem dX1_at_0 : decode cX1_at 0 = .ok (.aload_n 0, 1) := by decide +kernel
theorem dX1_at_1 : decode cX1_at 1 = .ok (.invokevirtual 41, 3) := by decide +kernel
theorem dX1_at_4 : decode cX1_at 4 = .ok (.lstore_n 2, 1) := by decide +kernel
theorem dX1_at_5 : decode cX1_at 5 = .ok (.iconst 0, 1) := by decide +kernel
theorem dX1_at_6 : decode cX1_at 6 = .ok (.istore 4, 2) := by decide +kernel
theorem dX1_at_8 : decode cX1_at 8 = .ok (.iconst 0, 1) := by decide +kernel
theorem dX1_at_9 : decode cX1_at 9 = .ok (.istore 5, 2) := by decide +kernel
theorem dX1_at_11 : decode cX1_at 11 = .ok (.iload 5, 2) := by decide +kernel
theorem dX1_at_13 : decode cX1_at 13 = .ok (.bipush 48, 2) := by decide +kernel
theorem dX1_at_15 : decode cX1_at 15 = .ok (.if_icmp .ge 30, 3) := by decide +kernel
theorem dX1_at_18 : decode cX1_at 18 = .ok (.lload_n 2, 1) := by decide +kernel
theorem dX1_at_19 : decode cX1_at 19 = .ok (.iload 5, 2) := by decide +kernel
theorem dX1_at_21 : decode cX1_at 21 = .ok (.invokestatic 45, 3) := by decide +kernel
theorem dX1_at_24 : decode cX1_at 24 = .ok (.ifCond .eq 15, 3) := by decide +kernel
theorem dX1_at_27 : decode cX1_at 27 = .ok (.iload 4, 2) := by decide +kernel
theorem dX1_at_29 : decode cX1_at 29 = .ok (.iload_n 1, 1) := by decide +kernel
theorem dX1_at_30 : decode cX1_at 30 = .ok (.if_icmp .ne 6, 3) := by decide +kernel
theorem dX1_at_33 : decode cX1_at 33 = .ok (.iload 5, 2) := by decide +kernel
theorem dX1_at_35 : decode cX1_at 35 = .ok (.ireturn, 1) := by decide +kernel
theorem dX1_at_36 : decode cX1_at 36 = .ok (.iinc 4 1, 3) := by decide +kernel
theorem dX1_at_39 : decode cX1_at 39 = .ok (.iinc 5 1, 3) := by decide +kernel
theorem dX1_at_42 : decode cX1_at 42 = .ok (.goto (-31), 3) := by decide +kernel
theorem dX1_at_45 : decode cX1_at 45 = .ok (.iconst (-1), 1) := by decide +kernel
theorem dX1_at_46 : decode cX1_at 46 = .ok (.ireturn, 1) := by decide +kernel
set_option maxRecDepth 20000 in
theorem ggX1_fewestFor_X1_now : GoodIn wsX1_fewestFor wsX1_now := goodIn_r _ [7, 1, 8, 9, 6, 10, 11, 12, 13, 14, 15, 16, 17, 49, 50, 51, 52, 53, 54, 55, 56, 57, 58, 59, 60] (by decide +kernel) (by decide +kernel)
set_option maxRecDepth 20000 in
theorem gX1_fewestFor_X1_now : GoodIn wsX1_fewestFor (wsV RX1 41 RX1 yX1_now wsX1_now) := goodIn_app (goodIn_of _ (by decide +kernel)) ggX1_fewestFor_X1_now
set_option maxRecDepth 20000 in
theorem ggX1_fewestFor_X6_isSet : GoodIn wsX1_fewestFor wsX6_isSet := goodIn_r _ [20] (by decide +kernel) (by decide +kernel)
set_option maxRecDepth 20000 in
theorem gX1_fewestFor_X6_isSet_n45 : GoodIn wsX1_fewestFor (wsX6_isSet) := ggX1_fewestFor_X6_isSet
set_option maxRecDepth 20000 in
theorem ggX1_fewestFor_X1_keepAll : GoodIn wsX1_fewestFor wsX1_keepAll := goodIn_r _ [24, 25, 1, 26, 2, 27, 28, 29, 30, 31, 32, 18, 19, 20, 33, 34, 35, 36, 37, 8, 9, 6, 10, 11, 12, 13, 14, 15, 16, 17, 49, 50, 51, 52, 53, 54, 55, 56, 57, 58, 59, 60] (by decide +kernel) (by decide +kernel)
set_option maxRecDepth 20000 in
theorem gX1_fewestFor_X1_keepAll : GoodIn wsX1_fewestFor (wsV RX1 49 RX1 yX1_keepAll wsX1_keepAll) := goodIn_app (goodIn_of _ (by decide +kernel)) ggX1_fewestFor_X1_keepAll
set_option maxRecDepth 20000 in
theorem ggX1_fewestFor_X1_isFewer : GoodIn wsX1_fewestFor wsX1_isFewer := goodIn_r _ [41, 1, 42, 43, 44, 45, 46, 47, 48, 49, 50, 51, 52, 53, 54, 55, 56, 57, 58, 59, 60] (by decide +kernel) (by decide +kernel)
set_option maxRecDepth 20000 in
theorem gX1_fewestFor_X1_isFewer : GoodIn wsX1_fewestFor (wsV RX1 55 RX1 yX1_isFewer wsX1_isFewer) := goodIn_app (goodIn_of _ (by decide +kernel)) ggX1_fewestFor_X1_isFewer
theorem dX1_fewestFor_0 : decode cX1_fewestFor 0 = .ok (.aload_n 0, 1) := by decide +kernel
theorem dX1_fewestFor_1 : decode cX1_fewestFor 1 = .ok (.invokevirtual 41, 3) := by decide +kernel
theorem dX1_fewestFor_4 : decode cX1_fewestFor 4 = .ok (.iload_n 1, 1) := by decide +kernel
theorem dX1_fewestFor_5 : decode cX1_fewestFor 5 = .ok (.invokestatic 45, 3) := by decide +kernel
theorem dX1_fewestFor_8 : decode cX1_fewestFor 8 = .ok (.ifCond .ne 5, 3) := by decide +kernel
theorem dX1_fewestFor_11 : decode cX1_fewestFor 11 = .ok (.iconst (-1), 1) := by decide +kernel
theorem dX1_fewestFor_12 : decode cX1_fewestFor 12 = .ok (.ireturn, 1) := by decide +kernel
theorem dX1_fewestFor_13 : decode cX1_fewestFor 13 = .ok (.aload_n 0, 1) := by decide +kernel
theorem dX1_fewestFor_14 : decode cX1_fewestFor 14 = .ok (.invokevirtual 49, 3) := by decide +kernel
theorem dX1_fewestFor_17 : decode cX1_fewestFor 17 = .ok (.aload_n 0, 1) := by decide +kernel
theorem dX1_fewestFor_18 : decode cX1_fewestFor 18 = .ok (.getfield 22, 3) := by decide +kernel
theorem dX1_fewestFor_21 : decode cX1_fewestFor 21 = .ok (.getfield 52, 3) := by decide +kernel
theorem dX1_fewestFor_24 : decode cX1_fewestFor 24 = .ok (.istore_n 2, 1) := by decide +kernel
theorem dX1_fewestFor_25 : decode cX1_fewestFor 25 = .ok (.iconst 0, 1) := by decide +kernel
theorem dX1_fewestFor_26 : decode cX1_fewestFor 26 = .ok (.istore_n 3, 1) := by decide +kernel
theorem dX1_fewestFor_27 : decode cX1_fewestFor 27 = .ok (.iload_n 3, 1) := by decide +kernel
theorem dX1_fewestFor_28 : decode cX1_fewestFor 28 = .ok (.sipush 256, 3) := by decide +kernel
theorem dX1_fewestFor_31 : decode cX1_fewestFor 31 = .ok (.if_icmp .ge 33, 3) := by decide +kernel
theorem dX1_fewestFor_34 : decode cX1_fewestFor 34 = .ok (.aload_n 0, 1) := by decide +kernel
theorem dX1_fewestFor_35 : decode cX1_fewestFor 35 = .ok (.getfield 9, 3) := by decide +kernel
theorem dX1_fewestFor_38 : decode cX1_fewestFor 38 = .ok (.iload_n 3, 1) := by decide +kernel
theorem dX1_fewestFor_39 : decode cX1_fewestFor 39 = .ok (.laload, 1) := by decide +kernel
theorem dX1_fewestFor_40 : decode cX1_fewestFor 40 = .ok (.iload_n 1, 1) := by decide +kernel
theorem dX1_fewestFor_41 : decode cX1_fewestFor 41 = .ok (.invokestatic 45, 3) := by decide +kernel
theorem dX1_fewestFor_44 : decode cX1_fewestFor 44 = .ok (.ifCond .eq 14, 3) := by decide +kernel
theorem dX1_fewestFor_47 : decode cX1_fewestFor 47 = .ok (.aload_n 0, 1) := by decide +kernel
theorem dX1_fewestFor_48 : decode cX1_fewestFor 48 = .ok (.iload_n 3, 1) := by decide +kernel
theorem dX1_fewestFor_49 : decode cX1_fewestFor 49 = .ok (.iload_n 2, 1) := by decide +kernel
theorem dX1_fewestFor_50 : decode cX1_fewestFor 50 = .ok (.invokevirtual 55, 3) := by decide +kernel
theorem dX1_fewestFor_53 : decode cX1_fewestFor 53 = .ok (.ifCond .eq 5, 3) := by decide +kernel
theorem dX1_fewestFor_56 : decode cX1_fewestFor 56 = .ok (.iload_n 3, 1) := by decide +kernel
theorem dX1_fewestFor_57 : decode cX1_fewestFor 57 = .ok (.istore_n 2, 1) := by decide +kernel
theorem dX1_fewestFor_58 : decode cX1_fewestFor 58 = .ok (.iinc 3 1, 3) := by decide +kernel
theorem dX1_fewestFor_61 : decode cX1_fewestFor 61 = .ok (.goto (-34), 3) := by decide +kernel
theorem dX1_fewestFor_64 : decode cX1_fewestFor 64 = .ok (.iload_n 2, 1) := by decide +kernel
theorem dX1_fewestFor_65 : decode cX1_fewestFor 65 = .ok (.ireturn, 1) := by decide +kernel
set_option maxRecDepth 20000 in
theorem ggX1_fewestToLeave_X1_now : GoodIn wsX1_fewestToLeave wsX1_now := goodIn_r _ [7, 1, 8, 9, 6, 10, 11, 12, 13, 14, 15, 16, 17, 49, 50, 51, 52, 53, 54, 55, 56, 57, 58, 59, 60] (by decide +kernel) (by decide +kernel)
set_option maxRecDepth 20000 in
theorem gX1_fewestToLeave_X1_now : GoodIn wsX1_fewestToLeave (wsV RX1 41 RX1 yX1_now wsX1_now) := goodIn_app (goodIn_of _ (by decide +kernel)) ggX1_fewestToLeave_X1_now
set_option maxRecDepth 20000 in
theorem ggX1_fewestToLeave_X1_keepAll : GoodIn wsX1_fewestToLeave wsX1_keepAll := goodIn_r _ [21, 22, 1, 23, 2, 24, 25, 26, 27, 28, 29, 30, 31, 32, 33, 34, 35, 36, 37, 8, 9, 6, 10, 11, 12, 13, 14, 15, 16, 17, 49, 50, 51, 52, 53, 54, 55, 56, 57, 58, 59, 60] (by decide +kernel) (by decide +kernel)
set_option maxRecDepth 20000 in
theorem gX1_fewestToLeave_X1_keepAll : GoodIn wsX1_fewestToLeave (wsV RX1 49 RX1 yX1_keepAll wsX1_keepAll) := goodIn_app (goodIn_of _ (by decide +kernel)) ggX1_fewestToLeave_X1_keepAll
set_option maxRecDepth 20000 in
theorem ggX1_fewestToLeave_X1_isFewer : GoodIn wsX1_fewestToLeave wsX1_isFewer := goodIn_r _ [41, 1, 42, 43, 44, 45, 46, 47, 48, 49, 50, 51, 52, 53, 54, 55, 56, 57, 58, 59, 60] (by decide +kernel) (by decide +kernel)
set_option maxRecDepth 20000 in
theorem gX1_fewestToLeave_X1_isFewer : GoodIn wsX1_fewestToLeave (wsV RX1 55 RX1 yX1_isFewer wsX1_isFewer) := goodIn_app (goodIn_of _ (by decide +kernel)) ggX1_fewestToLeave_X1_isFewer
theorem dX1_fewestToLeave_0 : decode cX1_fewestToLeave 0 = .ok (.aload_n 0, 1) := by decide +kernel
theorem dX1_fewestToLeave_1 : decode cX1_fewestToLeave 1 = .ok (.invokevirtual 41, 3) := by decide +kernel
theorem dX1_fewestToLeave_4 : decode cX1_fewestToLeave 4 = .ok (.lconst 0, 1) := by decide +kernel
theorem dX1_fewestToLeave_5 : decode cX1_fewestToLeave 5 = .ok (.lcmp, 1) := by decide +kernel
theorem dX1_fewestToLeave_6 : decode cX1_fewestToLeave 6 = .ok (.ifCond .ne 5, 3) := by decide +kernel
theorem dX1_fewestToLeave_9 : decode cX1_fewestToLeave 9 = .ok (.iconst 0, 1) := by decide +kernel
theorem dX1_fewestToLeave_10 : decode cX1_fewestToLeave 10 = .ok (.ireturn, 1) := by decide +kernel
theorem dX1_fewestToLeave_11 : decode cX1_fewestToLeave 11 = .ok (.aload_n 0, 1) := by decide +kernel
theorem dX1_fewestToLeave_12 : decode cX1_fewestToLeave 12 = .ok (.invokevirtual 49, 3) := by decide +kernel
theorem dX1_fewestToLeave_15 : decode cX1_fewestToLeave 15 = .ok (.aload_n 0, 1) := by decide +kernel
theorem dX1_fewestToLeave_16 : decode cX1_fewestToLeave 16 = .ok (.getfield 22, 3) := by decide +kernel
theorem dX1_fewestToLeave_19 : decode cX1_fewestToLeave 19 = .ok (.getfield 52, 3) := by decide +kernel
theorem dX1_fewestToLeave_22 : decode cX1_fewestToLeave 22 = .ok (.istore_n 1, 1) := by decide +kernel
theorem dX1_fewestToLeave_23 : decode cX1_fewestToLeave 23 = .ok (.iconst 0, 1) := by decide +kernel
theorem dX1_fewestToLeave_24 : decode cX1_fewestToLeave 24 = .ok (.istore_n 2, 1) := by decide +kernel
theorem dX1_fewestToLeave_25 : decode cX1_fewestToLeave 25 = .ok (.iload_n 2, 1) := by decide +kernel
theorem dX1_fewestToLeave_26 : decode cX1_fewestToLeave 26 = .ok (.sipush 256, 3) := by decide +kernel
theorem dX1_fewestToLeave_29 : decode cX1_fewestToLeave 29 = .ok (.if_icmp .ge 41, 3) := by decide +kernel
theorem dX1_fewestToLeave_32 : decode cX1_fewestToLeave 32 = .ok (.aload_n 0, 1) := by decide +kernel
theorem dX1_fewestToLeave_33 : decode cX1_fewestToLeave 33 = .ok (.getfield 9, 3) := by decide +kernel
theorem dX1_fewestToLeave_36 : decode cX1_fewestToLeave 36 = .ok (.aload_n 0, 1) := by decide +kernel
theorem dX1_fewestToLeave_37 : decode cX1_fewestToLeave 37 = .ok (.getfield 22, 3) := by decide +kernel
theorem dX1_fewestToLeave_40 : decode cX1_fewestToLeave 40 = .ok (.getfield 52, 3) := by decide +kernel
theorem dX1_fewestToLeave_43 : decode cX1_fewestToLeave 43 = .ok (.iload_n 2, 1) := by decide +kernel
theorem dX1_fewestToLeave_44 : decode cX1_fewestToLeave 44 = .ok (.iconst (-1), 1) := by decide +kernel
theorem dX1_fewestToLeave_45 : decode cX1_fewestToLeave 45 = .ok (.ixor, 1) := by decide +kernel
theorem dX1_fewestToLeave_46 : decode cX1_fewestToLeave 46 = .ok (.iand, 1) := by decide +kernel
theorem dX1_fewestToLeave_47 : decode cX1_fewestToLeave 47 = .ok (.laload, 1) := by decide +kernel
theorem dX1_fewestToLeave_48 : decode cX1_fewestToLeave 48 = .ok (.lconst 0, 1) := by decide +kernel
theorem dX1_fewestToLeave_49 : decode cX1_fewestToLeave 49 = .ok (.lcmp, 1) := by decide +kernel
theorem dX1_fewestToLeave_50 : decode cX1_fewestToLeave 50 = .ok (.ifCond .ne 14, 3) := by decide +kernel
theorem dX1_fewestToLeave_53 : decode cX1_fewestToLeave 53 = .ok (.aload_n 0, 1) := by decide +kernel
theorem dX1_fewestToLeave_54 : decode cX1_fewestToLeave 54 = .ok (.iload_n 2, 1) := by decide +kernel
theorem dX1_fewestToLeave_55 : decode cX1_fewestToLeave 55 = .ok (.iload_n 1, 1) := by decide +kernel
theorem dX1_fewestToLeave_56 : decode cX1_fewestToLeave 56 = .ok (.invokevirtual 55, 3) := by decide +kernel
theorem dX1_fewestToLeave_59 : decode cX1_fewestToLeave 59 = .ok (.ifCond .eq 5, 3) := by decide +kernel
theorem dX1_fewestToLeave_62 : decode cX1_fewestToLeave 62 = .ok (.iload_n 2, 1) := by decide +kernel
theorem dX1_fewestToLeave_63 : decode cX1_fewestToLeave 63 = .ok (.istore_n 1, 1) := by decide +kernel
theorem dX1_fewestToLeave_64 : decode cX1_fewestToLeave 64 = .ok (.iinc 2 1, 3) := by decide +kernel
theorem dX1_fewestToLeave_67 : decode cX1_fewestToLeave 67 = .ok (.goto (-42), 3) := by decide +kernel
theorem dX1_fewestToLeave_70 : decode cX1_fewestToLeave 70 = .ok (.iload_n 1, 1) := by decide +kernel
theorem dX1_fewestToLeave_71 : decode cX1_fewestToLeave 71 = .ok (.ireturn, 1) := by decide +kernel
set_option maxRecDepth 20000 in
theorem ggX1_isFewer_J6_bitCount_0f7a4 : GoodIn wsX1_isFewer wsJ6_bitCount_0f7a4 := goodIn_r _ [5, 6, 7, 8] (by decide +kernel) (by decide +kernel)
set_option maxRecDepth 20000 in
theorem gX1_isFewer_J6_bitCount_0f7a4 : GoodIn wsX1_isFewer (va_wsS RX1 59 yJ6_bitCount_0f7a4 wsJ6_bitCount_0f7a4) := goodIn_app (goodIn_of _ (by decide +kernel)) ggX1_isFewer_J6_bitCount_0f7a4
theorem dX1_isFewer_0 : decode cX1_isFewer 0 = .ok (.iload_n 1, 1) := by decide +kernel
theorem dX1_isFewer_1 : decode cX1_isFewer 1 = .ok (.aload_n 0, 1) := by decide +kernel
theorem dX1_isFewer_2 : decode cX1_isFewer 2 = .ok (.getfield 22, 3) := by decide +kernel
theorem dX1_isFewer_5 : decode cX1_isFewer 5 = .ok (.getfield 52, 3) := by decide +kernel
theorem dX1_isFewer_8 : decode cX1_isFewer 8 = .ok (.iconst (-1), 1) := by decide +kernel
theorem dX1_isFewer_9 : decode cX1_isFewer 9 = .ok (.ixor, 1) := by decide +kernel
theorem dX1_isFewer_10 : decode cX1_isFewer 10 = .ok (.iand, 1) := by decide +kernel
theorem dX1_isFewer_11 : decode cX1_isFewer 11 = .ok (.ifCond .ne 18, 3) := by decide +kernel
theorem dX1_isFewer_14 : decode cX1_isFewer 14 = .ok (.iload_n 1, 1) := by decide +kernel
theorem dX1_isFewer_15 : decode cX1_isFewer 15 = .ok (.invokestatic 59, 3) := by decide +kernel
theorem dX1_isFewer_18 : decode cX1_isFewer 18 = .ok (.iload_n 2, 1) := by decide +kernel
theorem dX1_isFewer_19 : decode cX1_isFewer 19 = .ok (.invokestatic 59, 3) := by decide +kernel
theorem dX1_isFewer_22 : decode cX1_isFewer 22 = .ok (.if_icmp .ge 7, 3) := by decide +kernel
theorem dX1_isFewer_25 : decode cX1_isFewer 25 = .ok (.iconst 1, 1) := by decide +kernel
theorem dX1_isFewer_26 : decode cX1_isFewer 26 = .ok (.goto 4, 3) := by decide +kernel
theorem dX1_isFewer_29 : decode cX1_isFewer 29 = .ok (.iconst 0, 1) := by decide +kernel
theorem dX1_isFewer_30 : decode cX1_isFewer 30 = .ok (.ireturn, 1) := by decide +kernel
set_option maxRecDepth 20000 in
theorem ggX1_keepAll_X3_spread : GoodIn wsX1_keepAll wsX3_spread := goodIn_r _ [9, 10, 11, 12, 13, 14, 15, 16, 8, 17, 18, 34, 35, 36, 37, 38, 39, 40, 41] (by decide +kernel) (by decide +kernel)
set_option maxRecDepth 20000 in
theorem gX1_keepAll_X3_spread : GoodIn wsX1_keepAll (wsV RX1 68 RX3 yX3_spread wsX3_spread) := goodIn_app (goodIn_of _ (by decide +kernel)) ggX1_keepAll_X3_spread
set_option maxRecDepth 20000 in
theorem ggX1_keepAll_X1_meetings : GoodIn wsX1_keepAll wsX1_meetings := goodIn_r _ [22, 23, 24, 25, 26, 27, 28, 29] (by decide +kernel) (by decide +kernel)
set_option maxRecDepth 20000 in
theorem gX1_keepAll_X1_meetings : GoodIn wsX1_keepAll (va_wsS RX1 31 yX1_meetings wsX1_meetings) := goodIn_app (goodIn_of _ (by decide +kernel)) ggX1_keepAll_X1_meetings
theorem dX1_keepAll_0 : decode cX1_keepAll 0 = .ok (.aload_n 0, 1) := by decide +kernel
theorem dX1_keepAll_1 : decode cX1_keepAll 1 = .ok (.getfield 18, 3) := by decide +kernel
theorem dX1_keepAll_4 : decode cX1_keepAll 4 = .ok (.aload_n 0, 1) := by decide +kernel
theorem dX1_keepAll_5 : decode cX1_keepAll 5 = .ok (.getfield 22, 3) := by decide +kernel
theorem dX1_keepAll_8 : decode cX1_keepAll 8 = .ok (.getfield 65, 3) := by decide +kernel
theorem dX1_keepAll_11 : decode cX1_keepAll 11 = .ok (.if_icmp .ne 4, 3) := by decide +kernel
theorem dX1_keepAll_14 : decode cX1_keepAll 14 = .ok (.return_, 1) := by decide +kernel
theorem dX1_keepAll_15 : decode cX1_keepAll 15 = .ok (.iconst 0, 1) := by decide +kernel
theorem dX1_keepAll_16 : decode cX1_keepAll 16 = .ok (.istore_n 1, 1) := by decide +kernel
theorem dX1_keepAll_17 : decode cX1_keepAll 17 = .ok (.iload_n 1, 1) := by decide +kernel
theorem dX1_keepAll_18 : decode cX1_keepAll 18 = .ok (.sipush 256, 3) := by decide +kernel
theorem dX1_keepAll_21 : decode cX1_keepAll 21 = .ok (.if_icmp .ge 48, 3) := by decide +kernel
theorem dX1_keepAll_24 : decode cX1_keepAll 24 = .ok (.iload_n 1, 1) := by decide +kernel
theorem dX1_keepAll_25 : decode cX1_keepAll 25 = .ok (.aload_n 0, 1) := by decide +kernel
theorem dX1_keepAll_26 : decode cX1_keepAll 26 = .ok (.getfield 22, 3) := by decide +kernel
theorem dX1_keepAll_29 : decode cX1_keepAll 29 = .ok (.getfield 52, 3) := by decide +kernel
theorem dX1_keepAll_32 : decode cX1_keepAll 32 = .ok (.iconst (-1), 1) := by decide +kernel
theorem dX1_keepAll_33 : decode cX1_keepAll 33 = .ok (.ixor, 1) := by decide +kernel
theorem dX1_keepAll_34 : decode cX1_keepAll 34 = .ok (.iand, 1) := by decide +kernel
theorem dX1_keepAll_35 : decode cX1_keepAll 35 = .ok (.ifCond .ne 28, 3) := by decide +kernel
theorem dX1_keepAll_38 : decode cX1_keepAll 38 = .ok (.aload_n 0, 1) := by decide +kernel
theorem dX1_keepAll_39 : decode cX1_keepAll 39 = .ok (.getfield 22, 3) := by decide +kernel
theorem dX1_keepAll_42 : decode cX1_keepAll 42 = .ok (.iload_n 1, 1) := by decide +kernel
theorem dX1_keepAll_43 : decode cX1_keepAll 43 = .ok (.aload_n 0, 1) := by decide +kernel
theorem dX1_keepAll_44 : decode cX1_keepAll 44 = .ok (.getfield 15, 3) := by decide +kernel
theorem dX1_keepAll_47 : decode cX1_keepAll 47 = .ok (.invokevirtual 68, 3) := by decide +kernel
theorem dX1_keepAll_50 : decode cX1_keepAll 50 = .ok (.aload_n 0, 1) := by decide +kernel
theorem dX1_keepAll_51 : decode cX1_keepAll 51 = .ok (.getfield 9, 3) := by decide +kernel
theorem dX1_keepAll_54 : decode cX1_keepAll 54 = .ok (.iload_n 1, 1) := by decide +kernel
theorem dX1_keepAll_55 : decode cX1_keepAll 55 = .ok (.aload_n 0, 1) := by decide +kernel
theorem dX1_keepAll_56 : decode cX1_keepAll 56 = .ok (.getfield 15, 3) := by decide +kernel
theorem dX1_keepAll_59 : decode cX1_keepAll 59 = .ok (.invokestatic 31, 3) := by decide +kernel
theorem dX1_keepAll_62 : decode cX1_keepAll 62 = .ok (.lastore, 1) := by decide +kernel
theorem dX1_keepAll_63 : decode cX1_keepAll 63 = .ok (.iinc 1 1, 3) := by decide +kernel
theorem dX1_keepAll_66 : decode cX1_keepAll 66 = .ok (.goto (-49), 3) := by decide +kernel
theorem dX1_keepAll_69 : decode cX1_keepAll 69 = .ok (.aload_n 0, 1) := by decide +kernel
theorem dX1_keepAll_70 : decode cX1_keepAll 70 = .ok (.aload_n 0, 1) := by decide +kernel
theorem dX1_keepAll_71 : decode cX1_keepAll 71 = .ok (.getfield 22, 3) := by decide +kernel
theorem dX1_keepAll_74 : decode cX1_keepAll 74 = .ok (.getfield 65, 3) := by decide +kernel
theorem dX1_keepAll_77 : decode cX1_keepAll 77 = .ok (.putfield 18, 3) := by decide +kernel
theorem dX1_keepAll_80 : decode cX1_keepAll 80 = .ok (.return_, 1) := by decide +kernel
set_option maxRecDepth 20000 in
theorem ggX1_meetings_X4_meeting : GoodIn wsX1_meetings wsX4_meeting := goodIn_r _ [4, 5, 6, 3, 7] (by decide +kernel) (by decide +kernel)
set_option maxRecDepth 20000 in
theorem gX1_meetings_X4_meeting : GoodIn wsX1_meetings (va_wsS RX1 35 yX4_meeting wsX4_meeting) := goodIn_app (goodIn_of _ (by decide +kernel)) ggX1_meetings_X4_meeting
theorem dX1_meetings_0 : decode cX1_meetings 0 = .ok (.lconst 0, 1) := by decide +kernel
theorem dX1_meetings_1 : decode cX1_meetings 1 = .ok (.lstore_n 1, 1) := by decide +kernel
theorem dX1_meetings_2 : decode cX1_meetings 2 = .ok (.iconst 0, 1) := by decide +kernel
theorem dX1_meetings_3 : decode cX1_meetings 3 = .ok (.istore_n 3, 1) := by decide +kernel
theorem dX1_meetings_4 : decode cX1_meetings 4 = .ok (.iload_n 3, 1) := by decide +kernel
theorem dX1_meetings_5 : decode cX1_meetings 5 = .ok (.bipush 8, 2) := by decide +kernel
theorem dX1_meetings_7 : decode cX1_meetings 7 = .ok (.if_icmp .ge 24, 3) := by decide +kernel
theorem dX1_meetings_10 : decode cX1_meetings 10 = .ok (.lload_n 1, 1) := by decide +kernel
theorem dX1_meetings_11 : decode cX1_meetings 11 = .ok (.aload_n 0, 1) := by decide +kernel
theorem dX1_meetings_12 : decode cX1_meetings 12 = .ok (.iload_n 3, 1) := by decide +kernel
theorem dX1_meetings_13 : decode cX1_meetings 13 = .ok (.laload, 1) := by decide +kernel
theorem dX1_meetings_14 : decode cX1_meetings 14 = .ok (.invokestatic 35, 3) := by decide +kernel
theorem dX1_meetings_17 : decode cX1_meetings 17 = .ok (.i2l, 1) := by decide +kernel
theorem dX1_meetings_18 : decode cX1_meetings 18 = .ok (.iload_n 3, 1) := by decide +kernel
theorem dX1_meetings_19 : decode cX1_meetings 19 = .ok (.bipush 6, 2) := by decide +kernel
theorem dX1_meetings_21 : decode cX1_meetings 21 = .ok (.imul, 1) := by decide +kernel
theorem dX1_meetings_22 : decode cX1_meetings 22 = .ok (.lshl, 1) := by decide +kernel
theorem dX1_meetings_23 : decode cX1_meetings 23 = .ok (.lor, 1) := by decide +kernel
theorem dX1_meetings_24 : decode cX1_meetings 24 = .ok (.lstore_n 1, 1) := by decide +kernel
theorem dX1_meetings_25 : decode cX1_meetings 25 = .ok (.iinc 3 1, 3) := by decide +kernel
theorem dX1_meetings_28 : decode cX1_meetings 28 = .ok (.goto (-24), 3) := by decide +kernel
theorem dX1_meetings_31 : decode cX1_meetings 31 = .ok (.lload_n 1, 1) := by decide +kernel
theorem dX1_meetings_32 : decode cX1_meetings 32 = .ok (.lreturn, 1) := by decide +kernel
theorem dX2_init_0 : decode cX2_init 0 = .ok (.aload_n 0, 1) := by decide +kernel
theorem dX2_init_1 : decode cX2_init 1 = .ok (.invokespecial 3, 3) := by decide +kernel
theorem dX2_init_4 : decode cX2_init 4 = .ok (.aload_n 0, 1) := by decide +kernel
theorem dX2_init_5 : decode cX2_init 5 = .ok (.bipush 24, 2) := by decide +kernel
theorem dX2_init_7 : decode cX2_init 7 = .ok (.newarray .int, 2) := by decide +kernel
theorem dX2_init_9 : decode cX2_init 9 = .ok (.putfield 9, 3) := by decide +kernel
theorem dX2_init_12 : decode cX2_init 12 = .ok (.aload_n 0, 1) := by decide +kernel
theorem dX2_init_13 : decode cX2_init 13 = .ok (.iconst 0, 1) := by decide +kernel
theorem dX2_init_14 : decode cX2_init 14 = .ok (.putfield 15, 3) := by decide +kernel
theorem dX2_init_17 : decode cX2_init 17 = .ok (.return_, 1) := by decide +kernel
theorem dX2_write_0 : decode cX2_write 0 = .ok (.aload_n 0, 1) := by decide +kernel
theorem dX2_write_1 : decode cX2_write 1 = .ok (.getfield 15, 3) := by decide +kernel
theorem dX2_write_4 : decode cX2_write 4 = .ok (.bipush 24, 2) := by decide +kernel
theorem dX2_write_6 : decode cX2_write 6 = .ok (.if_icmp .ge 23, 3) := by decide +kernel
theorem dX2_write_9 : decode cX2_write 9 = .ok (.aload_n 0, 1) := by decide +kernel
theorem dX2_write_10 : decode cX2_write 10 = .ok (.getfield 9, 3) := by decide +kernel
theorem dX2_write_13 : decode cX2_write 13 = .ok (.aload_n 0, 1) := by decide +kernel
theorem dX2_write_14 : decode cX2_write 14 = .ok (.getfield 15, 3) := by decide +kernel
theorem dX2_write_17 : decode cX2_write 17 = .ok (.iload_n 1, 1) := by decide +kernel
theorem dX2_write_18 : decode cX2_write 18 = .ok (.iastore, 1) := by decide +kernel
theorem dX2_write_19 : decode cX2_write 19 = .ok (.aload_n 0, 1) := by decide +kernel
theorem dX2_write_20 : decode cX2_write 20 = .ok (.dup, 1) := by decide +kernel
theorem dX2_write_21 : decode cX2_write 21 = .ok (.getfield 15, 3) := by decide +kernel
theorem dX2_write_24 : decode cX2_write 24 = .ok (.iconst 1, 1) := by decide +kernel
theorem dX2_write_25 : decode cX2_write 25 = .ok (.iadd, 1) := by decide +kernel
theorem dX2_write_26 : decode cX2_write 26 = .ok (.putfield 15, 3) := by decide +kernel
theorem dX2_write_29 : decode cX2_write 29 = .ok (.aload_n 0, 1) := by decide +kernel
theorem dX2_write_30 : decode cX2_write 30 = .ok (.getfield 15, 3) := by decide +kernel
theorem dX2_write_33 : decode cX2_write 33 = .ok (.ireturn, 1) := by decide +kernel
theorem dX2_wipe_0 : decode cX2_wipe 0 = .ok (.aload_n 0, 1) := by decide +kernel
theorem dX2_wipe_1 : decode cX2_wipe 1 = .ok (.getfield 15, 3) := by decide +kernel
theorem dX2_wipe_4 : decode cX2_wipe 4 = .ok (.istore_n 1, 1) := by decide +kernel
theorem dX2_wipe_5 : decode cX2_wipe 5 = .ok (.aload_n 0, 1) := by decide +kernel
theorem dX2_wipe_6 : decode cX2_wipe 6 = .ok (.iconst 0, 1) := by decide +kernel
theorem dX2_wipe_7 : decode cX2_wipe 7 = .ok (.putfield 15, 3) := by decide +kernel
theorem dX2_wipe_10 : decode cX2_wipe 10 = .ok (.iload_n 1, 1) := by decide +kernel
theorem dX2_wipe_11 : decode cX2_wipe 11 = .ok (.ireturn, 1) := by decide +kernel
set_option maxRecDepth 20000 in
theorem ggX2_firstFault_X2_itemOf : GoodIn wsX2_firstFault wsX2_itemOf := goodIn_r _ [6] (by decide +kernel) (by decide +kernel)
set_option maxRecDepth 20000 in
theorem gX2_firstFault_X2_itemOf : GoodIn wsX2_firstFault (va_wsS RX2 19 yX2_itemOf wsX2_itemOf) := goodIn_app (goodIn_of _ (by decide +kernel)) ggX2_firstFault_X2_itemOf
set_option maxRecDepth 20000 in
theorem ggX2_firstFault_X2_reachOf : GoodIn wsX2_firstFault wsX2_reachOf := goodIn_r _ [9] (by decide +kernel) (by decide +kernel)
set_option maxRecDepth 20000 in
theorem gX2_firstFault_X2_reachOf : GoodIn wsX2_firstFault (va_wsS RX2 23 yX2_reachOf wsX2_reachOf) := goodIn_app (goodIn_of _ (by decide +kernel)) ggX2_firstFault_X2_reachOf
set_option maxRecDepth 20000 in
theorem ggX2_firstFault_X6_isSet : GoodIn wsX2_firstFault wsX6_isSet := goodIn_r _ [12] (by decide +kernel) (by decide +kernel)
set_option maxRecDepth 20000 in
theorem gX2_firstFault_X6_isSet_n26 : GoodIn wsX2_firstFault (wsX6_isSet) := ggX2_firstFault_X6_isSet
theorem dX2_firstFault_0 : decode cX2_firstFault 0 = .ok (.iconst 0, 1) := by decide +kernel
theorem dX2_firstFault_1 : decode cX2_firstFault 1 = .ok (.istore_n 1, 1) := by decide +kernel
theorem dX2_firstFault_2 : decode cX2_firstFault 2 = .ok (.iconst 0, 1) := by decide +kernel
theorem dX2_firstFault_3 : decode cX2_firstFault 3 = .ok (.istore_n 2, 1) := by decide +kernel
theorem dX2_firstFault_4 : decode cX2_firstFault 4 = .ok (.iconst 0, 1) := by decide +kernel
theorem dX2_firstFault_5 : decode cX2_firstFault 5 = .ok (.istore_n 3, 1) := by decide +kernel
theorem dX2_firstFault_6 : decode cX2_firstFault 6 = .ok (.iload_n 3, 1) := by decide +kernel
theorem dX2_firstFault_7 : decode cX2_firstFault 7 = .ok (.aload_n 0, 1) := by decide +kernel
theorem dX2_firstFault_8 : decode cX2_firstFault 8 = .ok (.getfield 15, 3) := by decide +kernel
theorem dX2_firstFault_11 : decode cX2_firstFault 11 = .ok (.if_icmp .ge 102, 3) := by decide +kernel
theorem dX2_firstFault_14 : decode cX2_firstFault 14 = .ok (.aload_n 0, 1) := by decide +kernel
theorem dX2_firstFault_15 : decode cX2_firstFault 15 = .ok (.getfield 9, 3) := by decide +kernel
theorem dX2_firstFault_18 : decode cX2_firstFault 18 = .ok (.iload_n 3, 1) := by decide +kernel
theorem dX2_firstFault_19 : decode cX2_firstFault 19 = .ok (.iaload, 1) := by decide +kernel
theorem dX2_firstFault_20 : decode cX2_firstFault 20 = .ok (.invokestatic 19, 3) := by decide +kernel
theorem dX2_firstFault_23 : decode cX2_firstFault 23 = .ok (.istore 4, 2) := by decide +kernel
theorem dX2_firstFault_25 : decode cX2_firstFault 25 = .ok (.iload 4, 2) := by decide +kernel
theorem dX2_firstFault_27 : decode cX2_firstFault 27 = .ok (.iconst (-1), 1) := by decide +kernel
theorem dX2_firstFault_28 : decode cX2_firstFault 28 = .ok (.if_icmp .ne 28, 3) := by decide +kernel
theorem dX2_firstFault_31 : decode cX2_firstFault 31 = .ok (.iload_n 2, 1) := by decide +kernel
theorem dX2_firstFault_32 : decode cX2_firstFault 32 = .ok (.ifCond .eq 20, 3) := by decide +kernel
theorem dX2_firstFault_35 : decode cX2_firstFault 35 = .ok (.aload_n 0, 1) := by decide +kernel
theorem dX2_firstFault_36 : decode cX2_firstFault 36 = .ok (.getfield 9, 3) := by decide +kernel
theorem dX2_firstFault_39 : decode cX2_firstFault 39 = .ok (.iload_n 3, 1) := by decide +kernel
theorem dX2_firstFault_40 : decode cX2_firstFault 40 = .ok (.iaload, 1) := by decide +kernel
theorem dX2_firstFault_41 : decode cX2_firstFault 41 = .ok (.invokestatic 23, 3) := by decide +kernel
theorem dX2_firstFault_44 : decode cX2_firstFault 44 = .ok (.iconst 1, 1) := by decide +kernel
theorem dX2_firstFault_45 : decode cX2_firstFault 45 = .ok (.if_icmp .eq 7, 3) := by decide +kernel
theorem dX2_firstFault_48 : decode cX2_firstFault 48 = .ok (.iconst 1, 1) := by decide +kernel
theorem dX2_firstFault_49 : decode cX2_firstFault 49 = .ok (.goto 22, 3) := by decide +kernel
theorem dX2_firstFault_52 : decode cX2_firstFault 52 = .ok (.iconst 0, 1) := by decide +kernel
theorem dX2_firstFault_53 : decode cX2_firstFault 53 = .ok (.goto 18, 3) := by decide +kernel
theorem dX2_firstFault_56 : decode cX2_firstFault 56 = .ok (.iload_n 1, 1) := by decide +kernel
theorem dX2_firstFault_57 : decode cX2_firstFault 57 = .ok (.i2l, 1) := by decide +kernel
theorem dX2_firstFault_58 : decode cX2_firstFault 58 = .ok (.iload 4, 2) := by decide +kernel
theorem dX2_firstFault_60 : decode cX2_firstFault 60 = .ok (.invokestatic 26, 3) := by decide +kernel
theorem dX2_firstFault_63 : decode cX2_firstFault 63 = .ok (.ifCond .ne 7, 3) := by decide +kernel
theorem dX2_firstFault_66 : decode cX2_firstFault 66 = .ok (.iconst 1, 1) := by decide +kernel
theorem dX2_firstFault_67 : decode cX2_firstFault 67 = .ok (.goto 4, 3) := by decide +kernel
theorem dX2_firstFault_70 : decode cX2_firstFault 70 = .ok (.iconst 0, 1) := by decide +kernel
theorem dX2_firstFault_71 : decode cX2_firstFault 71 = .ok (.istore 5, 2) := by decide +kernel
theorem dX2_firstFault_73 : decode cX2_firstFault 73 = .ok (.iload 5, 2) := by decide +kernel
theorem dX2_firstFault_75 : decode cX2_firstFault 75 = .ok (.ifCond .ne 5, 3) := by decide +kernel
theorem dX2_firstFault_78 : decode cX2_firstFault 78 = .ok (.iload_n 3, 1) := by decide +kernel
theorem dX2_firstFault_79 : decode cX2_firstFault 79 = .ok (.ireturn, 1) := by decide +kernel
theorem dX2_firstFault_80 : decode cX2_firstFault 80 = .ok (.iload 4, 2) := by decide +kernel
theorem dX2_firstFault_82 : decode cX2_firstFault 82 = .ok (.iconst (-1), 1) := by decide +kernel
theorem dX2_firstFault_83 : decode cX2_firstFault 83 = .ok (.if_icmp .eq 7, 3) := by decide +kernel
theorem dX2_firstFault_86 : decode cX2_firstFault 86 = .ok (.iconst 1, 1) := by decide +kernel
theorem dX2_firstFault_87 : decode cX2_firstFault 87 = .ok (.goto 4, 3) := by decide +kernel
theorem dX2_firstFault_90 : decode cX2_firstFault 90 = .ok (.iconst 0, 1) := by decide +kernel
theorem dX2_firstFault_91 : decode cX2_firstFault 91 = .ok (.istore_n 2, 1) := by decide +kernel
theorem dX2_firstFault_92 : decode cX2_firstFault 92 = .ok (.iload_n 1, 1) := by decide +kernel
theorem dX2_firstFault_93 : decode cX2_firstFault 93 = .ok (.iload_n 2, 1) := by decide +kernel
theorem dX2_firstFault_94 : decode cX2_firstFault 94 = .ok (.ifCond .eq 10, 3) := by decide +kernel
theorem dX2_firstFault_97 : decode cX2_firstFault 97 = .ok (.iconst 1, 1) := by decide +kernel
theorem dX2_firstFault_98 : decode cX2_firstFault 98 = .ok (.iload 4, 2) := by decide +kernel
theorem dX2_firstFault_100 : decode cX2_firstFault 100 = .ok (.ishl, 1) := by decide +kernel
theorem dX2_firstFault_101 : decode cX2_firstFault 101 = .ok (.goto 4, 3) := by decide +kernel
theorem dX2_firstFault_104 : decode cX2_firstFault 104 = .ok (.iconst 0, 1) := by decide +kernel
theorem dX2_firstFault_105 : decode cX2_firstFault 105 = .ok (.ior, 1) := by decide +kernel
theorem dX2_firstFault_106 : decode cX2_firstFault 106 = .ok (.istore_n 1, 1) := by decide +kernel
theorem dX2_firstFault_107 : decode cX2_firstFault 107 = .ok (.iinc 3 1, 3) := by decide +kernel
theorem dX2_firstFault_110 : decode cX2_firstFault 110 = .ok (.goto (-104), 3) := by decide +kernel
theorem dX2_firstFault_113 : decode cX2_firstFault 113 = .ok (.aload_n 0, 1) := by decide +kernel
theorem dX2_firstFault_114 : decode cX2_firstFault 114 = .ok (.getfield 15, 3) := by decide +kernel
theorem dX2_firstFault_117 : decode cX2_firstFault 117 = .ok (.ireturn, 1) := by decide +kernel
set_option maxRecDepth 20000 in
theorem ggX2_meaning_X2_itemOf : GoodIn wsX2_meaning wsX2_itemOf := goodIn_r _ [6] (by decide +kernel) (by decide +kernel)
set_option maxRecDepth 20000 in
theorem gX2_meaning_X2_itemOf : GoodIn wsX2_meaning (va_wsS RX2 19 yX2_itemOf wsX2_itemOf) := goodIn_app (goodIn_of _ (by decide +kernel)) ggX2_meaning_X2_itemOf
set_option maxRecDepth 20000 in
theorem ggX2_meaning_X2_reachOf : GoodIn wsX2_meaning wsX2_reachOf := goodIn_r _ [9] (by decide +kernel) (by decide +kernel)
set_option maxRecDepth 20000 in
theorem gX2_meaning_X2_reachOf : GoodIn wsX2_meaning (va_wsS RX2 23 yX2_reachOf wsX2_reachOf) := goodIn_app (goodIn_of _ (by decide +kernel)) ggX2_meaning_X2_reachOf
set_option maxRecDepth 20000 in
theorem ggX2_meaning_X4_rowsFor : GoodIn wsX2_meaning wsX4_rowsFor := goodIn_r _ [13] (by decide +kernel) (by decide +kernel)
set_option maxRecDepth 20000 in
theorem gX2_meaning_X4_rowsFor : GoodIn wsX2_meaning (va_wsS RX2 30 yX4_rowsFor wsX4_rowsFor) := goodIn_app (goodIn_of _ (by decide +kernel)) ggX2_meaning_X4_rowsFor
theorem dX2_meaning_0 : decode cX2_meaning 0 = .ok (.lconst 0, 1) := by decide +kernel
theorem dX2_meaning_1 : decode cX2_meaning 1 = .ok (.lstore_n 1, 1) := by decide +kernel
theorem dX2_meaning_2 : decode cX2_meaning 2 = .ok (.iconst 0, 1) := by decide +kernel
theorem dX2_meaning_3 : decode cX2_meaning 3 = .ok (.istore_n 3, 1) := by decide +kernel
theorem dX2_meaning_4 : decode cX2_meaning 4 = .ok (.iload_n 3, 1) := by decide +kernel
theorem dX2_meaning_5 : decode cX2_meaning 5 = .ok (.aload_n 0, 1) := by decide +kernel
theorem dX2_meaning_6 : decode cX2_meaning 6 = .ok (.getfield 15, 3) := by decide +kernel
theorem dX2_meaning_9 : decode cX2_meaning 9 = .ok (.if_icmp .ge 63, 3) := by decide +kernel
theorem dX2_meaning_12 : decode cX2_meaning 12 = .ok (.aload_n 0, 1) := by decide +kernel
theorem dX2_meaning_13 : decode cX2_meaning 13 = .ok (.getfield 9, 3) := by decide +kernel
theorem dX2_meaning_16 : decode cX2_meaning 16 = .ok (.iload_n 3, 1) := by decide +kernel
theorem dX2_meaning_17 : decode cX2_meaning 17 = .ok (.iaload, 1) := by decide +kernel
theorem dX2_meaning_18 : decode cX2_meaning 18 = .ok (.invokestatic 19, 3) := by decide +kernel
theorem dX2_meaning_21 : decode cX2_meaning 21 = .ok (.istore 4, 2) := by decide +kernel
theorem dX2_meaning_23 : decode cX2_meaning 23 = .ok (.iload 4, 2) := by decide +kernel
theorem dX2_meaning_25 : decode cX2_meaning 25 = .ok (.iconst (-1), 1) := by decide +kernel
theorem dX2_meaning_26 : decode cX2_meaning 26 = .ok (.if_icmp .eq 40, 3) := by decide +kernel
theorem dX2_meaning_29 : decode cX2_meaning 29 = .ok (.iload_n 3, 1) := by decide +kernel
theorem dX2_meaning_30 : decode cX2_meaning 30 = .ok (.iconst 1, 1) := by decide +kernel
theorem dX2_meaning_31 : decode cX2_meaning 31 = .ok (.iadd, 1) := by decide +kernel
theorem dX2_meaning_32 : decode cX2_meaning 32 = .ok (.aload_n 0, 1) := by decide +kernel
theorem dX2_meaning_33 : decode cX2_meaning 33 = .ok (.getfield 15, 3) := by decide +kernel
theorem dX2_meaning_36 : decode cX2_meaning 36 = .ok (.if_icmp .ge 17, 3) := by decide +kernel
theorem dX2_meaning_39 : decode cX2_meaning 39 = .ok (.aload_n 0, 1) := by decide +kernel
theorem dX2_meaning_40 : decode cX2_meaning 40 = .ok (.getfield 9, 3) := by decide +kernel
theorem dX2_meaning_43 : decode cX2_meaning 43 = .ok (.iload_n 3, 1) := by decide +kernel
theorem dX2_meaning_44 : decode cX2_meaning 44 = .ok (.iconst 1, 1) := by decide +kernel
theorem dX2_meaning_45 : decode cX2_meaning 45 = .ok (.iadd, 1) := by decide +kernel
theorem dX2_meaning_46 : decode cX2_meaning 46 = .ok (.iaload, 1) := by decide +kernel
theorem dX2_meaning_47 : decode cX2_meaning 47 = .ok (.invokestatic 23, 3) := by decide +kernel
theorem dX2_meaning_50 : decode cX2_meaning 50 = .ok (.goto 4, 3) := by decide +kernel
theorem dX2_meaning_53 : decode cX2_meaning 53 = .ok (.iconst 1, 1) := by decide +kernel
theorem dX2_meaning_54 : decode cX2_meaning 54 = .ok (.istore 5, 2) := by decide +kernel
theorem dX2_meaning_56 : decode cX2_meaning 56 = .ok (.lload_n 1, 1) := by decide +kernel
theorem dX2_meaning_57 : decode cX2_meaning 57 = .ok (.iload 4, 2) := by decide +kernel
theorem dX2_meaning_59 : decode cX2_meaning 59 = .ok (.iload 5, 2) := by decide +kernel
theorem dX2_meaning_61 : decode cX2_meaning 61 = .ok (.invokestatic 30, 3) := by decide +kernel
theorem dX2_meaning_64 : decode cX2_meaning 64 = .ok (.lor, 1) := by decide +kernel
theorem dX2_meaning_65 : decode cX2_meaning 65 = .ok (.lstore_n 1, 1) := by decide +kernel
theorem dX2_meaning_66 : decode cX2_meaning 66 = .ok (.iinc 3 1, 3) := by decide +kernel
theorem dX2_meaning_69 : decode cX2_meaning 69 = .ok (.goto (-65), 3) := by decide +kernel
theorem dX2_meaning_72 : decode cX2_meaning 72 = .ok (.lload_n 1, 1) := by decide +kernel
theorem dX2_meaning_73 : decode cX2_meaning 73 = .ok (.lreturn, 1) := by decide +kernel
theorem dX2_itemOf_0 : decode cX2_itemOf 0 = .ok (.iload_n 0, 1) := by decide +kernel
theorem dX2_itemOf_1 : decode cX2_itemOf 1 = .ok (.bipush 112, 2) := by decide +kernel
theorem dX2_itemOf_3 : decode cX2_itemOf 3 = .ok (.if_icmp .lt 14, 3) := by decide +kernel
theorem dX2_itemOf_6 : decode cX2_itemOf 6 = .ok (.iload_n 0, 1) := by decide +kernel
theorem dX2_itemOf_7 : decode cX2_itemOf 7 = .ok (.bipush 117, 2) := by decide +kernel
theorem dX2_itemOf_9 : decode cX2_itemOf 9 = .ok (.if_icmp .gt 8, 3) := by decide +kernel
theorem dX2_itemOf_12 : decode cX2_itemOf 12 = .ok (.iload_n 0, 1) := by decide +kernel
theorem dX2_itemOf_13 : decode cX2_itemOf 13 = .ok (.bipush 112, 2) := by decide +kernel
theorem dX2_itemOf_15 : decode cX2_itemOf 15 = .ok (.isub, 1) := by decide +kernel
theorem dX2_itemOf_16 : decode cX2_itemOf 16 = .ok (.ireturn, 1) := by decide +kernel
theorem dX2_itemOf_17 : decode cX2_itemOf 17 = .ok (.iload_n 0, 1) := by decide +kernel
theorem dX2_itemOf_18 : decode cX2_itemOf 18 = .ok (.bipush 80, 2) := by decide +kernel
theorem dX2_itemOf_20 : decode cX2_itemOf 20 = .ok (.if_icmp .lt 19, 3) := by decide +kernel
theorem dX2_itemOf_23 : decode cX2_itemOf 23 = .ok (.iload_n 0, 1) := by decide +kernel
theorem dX2_itemOf_24 : decode cX2_itemOf 24 = .ok (.bipush 85, 2) := by decide +kernel
theorem dX2_itemOf_26 : decode cX2_itemOf 26 = .ok (.if_icmp .gt 13, 3) := by decide +kernel
theorem dX2_itemOf_29 : decode cX2_itemOf 29 = .ok (.iload_n 0, 1) := by decide +kernel
theorem dX2_itemOf_30 : decode cX2_itemOf 30 = .ok (.bipush 80, 2) := by decide +kernel
theorem dX2_itemOf_32 : decode cX2_itemOf 32 = .ok (.isub, 1) := by decide +kernel
theorem dX2_itemOf_33 : decode cX2_itemOf 33 = .ok (.bipush 6, 2) := by decide +kernel
theorem dX2_itemOf_35 : decode cX2_itemOf 35 = .ok (.iadd, 1) := by decide +kernel
theorem dX2_itemOf_36 : decode cX2_itemOf 36 = .ok (.goto 4, 3) := by decide +kernel
theorem dX2_itemOf_39 : decode cX2_itemOf 39 = .ok (.iconst (-1), 1) := by decide +kernel
theorem dX2_itemOf_40 : decode cX2_itemOf 40 = .ok (.ireturn, 1) := by decide +kernel
theorem dX2_reachOf_0 : decode cX2_reachOf 0 = .ok (.iload_n 0, 1) := by decide +kernel
theorem dX2_reachOf_1 : decode cX2_reachOf 1 = .ok (.bipush 43, 2) := by decide +kernel
theorem dX2_reachOf_3 : decode cX2_reachOf 3 = .ok (.if_icmp .ne 5, 3) := by decide +kernel
theorem dX2_reachOf_6 : decode cX2_reachOf 6 = .ok (.iconst 2, 1) := by decide +kernel
theorem dX2_reachOf_7 : decode cX2_reachOf 7 = .ok (.ireturn, 1) := by decide +kernel
theorem dX2_reachOf_8 : decode cX2_reachOf 8 = .ok (.iload_n 0, 1) := by decide +kernel
theorem dX2_reachOf_9 : decode cX2_reachOf 9 = .ok (.bipush 42, 2) := by decide +kernel
theorem dX2_reachOf_11 : decode cX2_reachOf 11 = .ok (.if_icmp .ne 7, 3) := by decide +kernel
theorem dX2_reachOf_14 : decode cX2_reachOf 14 = .ok (.iconst 3, 1) := by decide +kernel
theorem dX2_reachOf_15 : decode cX2_reachOf 15 = .ok (.goto 4, 3) := by decide +kernel
theorem dX2_reachOf_18 : decode cX2_reachOf 18 = .ok (.iconst 1, 1) := by decide +kernel
theorem dX2_reachOf_19 : decode cX2_reachOf 19 = .ok (.ireturn, 1) := by decide +kernel
set_option maxRecDepth 20000 in
theorem ggX3_init_J7_fill_53178 : GoodIn wsX3_init wsJ7_fill_53178 := goodIn_r _ [17] (by decide +kernel) (by decide +kernel)
set_option maxRecDepth 20000 in
theorem gX3_init_J7_fill_53178 : GoodIn wsX3_init (va_wsS RX3 38 yJ7_fill_53178 wsJ7_fill_53178) := goodIn_app (goodIn_of _ (by decide +kernel)) ggX3_init_J7_fill_53178
theorem dX3_init_0 : decode cX3_init 0 = .ok (.aload_n 0, 1) := by decide +kernel
theorem dX3_init_1 : decode cX3_init 1 = .ok (.invokespecial 3, 3) := by decide +kernel
theorem dX3_init_4 : decode cX3_init 4 = .ok (.aload_n 0, 1) := by decide +kernel
theorem dX3_init_5 : decode cX3_init 5 = .ok (.bipush 8, 2) := by decide +kernel
theorem dX3_init_7 : decode cX3_init 7 = .ok (.newarray .int, 2) := by decide +kernel
theorem dX3_init_9 : decode cX3_init 9 = .ok (.putfield 9, 3) := by decide +kernel
theorem dX3_init_12 : decode cX3_init 12 = .ok (.aload_n 0, 1) := by decide +kernel
theorem dX3_init_13 : decode cX3_init 13 = .ok (.bipush 8, 2) := by decide +kernel
theorem dX3_init_15 : decode cX3_init 15 = .ok (.newarray .long, 2) := by decide +kernel
theorem dX3_init_17 : decode cX3_init 17 = .ok (.putfield 15, 3) := by decide +kernel
theorem dX3_init_20 : decode cX3_init 20 = .ok (.aload_n 0, 1) := by decide +kernel
theorem dX3_init_21 : decode cX3_init 21 = .ok (.bipush 64, 2) := by decide +kernel
theorem dX3_init_23 : decode cX3_init 23 = .ok (.newarray .int, 2) := by decide +kernel
theorem dX3_init_25 : decode cX3_init 25 = .ok (.putfield 19, 3) := by decide +kernel
theorem dX3_init_28 : decode cX3_init 28 = .ok (.aload_n 0, 1) := by decide +kernel
theorem dX3_init_29 : decode cX3_init 29 = .ok (.bipush 64, 2) := by decide +kernel
theorem dX3_init_31 : decode cX3_init 31 = .ok (.newarray .long, 2) := by decide +kernel
theorem dX3_init_33 : decode cX3_init 33 = .ok (.putfield 22, 3) := by decide +kernel
theorem dX3_init_36 : decode cX3_init 36 = .ok (.aload_n 0, 1) := by decide +kernel
theorem dX3_init_37 : decode cX3_init 37 = .ok (.bipush 8, 2) := by decide +kernel
theorem dX3_init_39 : decode cX3_init 39 = .ok (.newarray .long, 2) := by decide +kernel
theorem dX3_init_41 : decode cX3_init 41 = .ok (.putfield 25, 3) := by decide +kernel
theorem dX3_init_44 : decode cX3_init 44 = .ok (.aload_n 0, 1) := by decide +kernel
theorem dX3_init_45 : decode cX3_init 45 = .ok (.iconst 0, 1) := by decide +kernel
theorem dX3_init_46 : decode cX3_init 46 = .ok (.putfield 28, 3) := by decide +kernel
theorem dX3_init_49 : decode cX3_init 49 = .ok (.aload_n 0, 1) := by decide +kernel
theorem dX3_init_50 : decode cX3_init 50 = .ok (.iconst 0, 1) := by decide +kernel
theorem dX3_init_51 : decode cX3_init 51 = .ok (.putfield 32, 3) := by decide +kernel
theorem dX3_init_54 : decode cX3_init 54 = .ok (.aload_n 0, 1) := by decide +kernel
theorem dX3_init_55 : decode cX3_init 55 = .ok (.iconst 0, 1) := by decide +kernel
theorem dX3_init_56 : decode cX3_init 56 = .ok (.putfield 35, 3) := by decide +kernel
theorem dX3_init_59 : decode cX3_init 59 = .ok (.aload_n 0, 1) := by decide +kernel
theorem dX3_init_60 : decode cX3_init 60 = .ok (.getfield 19, 3) := by decide +kernel
theorem dX3_init_63 : decode cX3_init 63 = .ok (.iconst (-1), 1) := by decide +kernel
theorem dX3_init_64 : decode cX3_init 64 = .ok (.invokestatic 38, 3) := by decide +kernel
theorem dX3_init_67 : decode cX3_init 67 = .ok (.return_, 1) := by decide +kernel
set_option maxRecDepth 20000 in
theorem ggX3_has_X6_isSet : GoodIn wsX3_has wsX6_isSet := goodIn_r _ [4] (by decide +kernel) (by decide +kernel)
set_option maxRecDepth 20000 in
theorem gX3_has_X6_isSet_n44 : GoodIn wsX3_has (wsX6_isSet) := ggX3_has_X6_isSet
theorem dX3_has_0 : decode cX3_has 0 = .ok (.iload_n 1, 1) := by decide +kernel
theorem dX3_has_1 : decode cX3_has 1 = .ok (.ifCond .lt 25, 3) := by decide +kernel
theorem dX3_has_4 : decode cX3_has 4 = .ok (.iload_n 1, 1) := by decide +kernel
theorem dX3_has_5 : decode cX3_has 5 = .ok (.bipush 8, 2) := by decide +kernel
theorem dX3_has_7 : decode cX3_has 7 = .ok (.if_icmp .ge 19, 3) := by decide +kernel
theorem dX3_has_10 : decode cX3_has 10 = .ok (.aload_n 0, 1) := by decide +kernel
theorem dX3_has_11 : decode cX3_has 11 = .ok (.getfield 28, 3) := by decide +kernel
theorem dX3_has_14 : decode cX3_has 14 = .ok (.i2l, 1) := by decide +kernel
theorem dX3_has_15 : decode cX3_has 15 = .ok (.iload_n 1, 1) := by decide +kernel
theorem dX3_has_16 : decode cX3_has 16 = .ok (.invokestatic 44, 3) := by decide +kernel
theorem dX3_has_19 : decode cX3_has 19 = .ok (.ifCond .eq 7, 3) := by decide +kernel
theorem dX3_has_22 : decode cX3_has 22 = .ok (.iconst 1, 1) := by decide +kernel
theorem dX3_has_23 : decode cX3_has 23 = .ok (.goto 4, 3) := by decide +kernel
theorem dX3_has_26 : decode cX3_has 26 = .ok (.iconst 0, 1) := by decide +kernel
theorem dX3_has_27 : decode cX3_has 27 = .ok (.ireturn, 1) := by decide +kernel
set_option maxRecDepth 20000 in
theorem ggX3_leastFree_X3_has : GoodIn wsX3_leastFree wsX3_has := goodIn_r _ [5, 6, 7, 8, 9, 10, 11, 12, 13, 14, 15, 16, 17] (by decide +kernel) (by decide +kernel)
set_option maxRecDepth 20000 in
theorem gX3_leastFree_X3_has : GoodIn wsX3_leastFree (wsV RX3 48 RX3 yX3_has wsX3_has) := goodIn_app (goodIn_of _ (by decide +kernel)) ggX3_leastFree_X3_has
theorem dX3_leastFree_0 : decode cX3_leastFree 0 = .ok (.iconst 0, 1) := by decide +kernel
theorem dX3_leastFree_1 : decode cX3_leastFree 1 = .ok (.istore_n 1, 1) := by decide +kernel
theorem dX3_leastFree_2 : decode cX3_leastFree 2 = .ok (.iload_n 1, 1) := by decide +kernel
theorem dX3_leastFree_3 : decode cX3_leastFree 3 = .ok (.bipush 8, 2) := by decide +kernel
theorem dX3_leastFree_5 : decode cX3_leastFree 5 = .ok (.if_icmp .ge 19, 3) := by decide +kernel
theorem dX3_leastFree_8 : decode cX3_leastFree 8 = .ok (.aload_n 0, 1) := by decide +kernel
theorem dX3_leastFree_9 : decode cX3_leastFree 9 = .ok (.iload_n 1, 1) := by decide +kernel
theorem dX3_leastFree_10 : decode cX3_leastFree 10 = .ok (.invokevirtual 48, 3) := by decide +kernel
theorem dX3_leastFree_13 : decode cX3_leastFree 13 = .ok (.ifCond .ne 5, 3) := by decide +kernel
theorem dX3_leastFree_16 : decode cX3_leastFree 16 = .ok (.iload_n 1, 1) := by decide +kernel
theorem dX3_leastFree_17 : decode cX3_leastFree 17 = .ok (.ireturn, 1) := by decide +kernel
theorem dX3_leastFree_18 : decode cX3_leastFree 18 = .ok (.iinc 1 1, 3) := by decide +kernel
theorem dX3_leastFree_21 : decode cX3_leastFree 21 = .ok (.goto (-19), 3) := by decide +kernel
theorem dX3_leastFree_24 : decode cX3_leastFree 24 = .ok (.iconst (-1), 1) := by decide +kernel
theorem dX3_leastFree_25 : decode cX3_leastFree 25 = .ok (.ireturn, 1) := by decide +kernel
set_option maxRecDepth 20000 in
theorem ggX3_put_X3_settle : GoodIn wsX3_put wsX3_settle := goodIn_r _ [8, 9, 1, 10, 11, 12, 13, 7, 14, 3, 15, 16, 17, 18, 19, 20, 21, 22, 23, 24, 25, 26, 27, 28, 29, 30] (by decide +kernel) (by decide +kernel)
set_option maxRecDepth 20000 in
theorem gX3_put_X3_settle : GoodIn wsX3_put (wsV RX3 52 RX3 yX3_settle wsX3_settle) := goodIn_app (goodIn_of _ (by decide +kernel)) ggX3_put_X3_settle
theorem dX3_put_0 : decode cX3_put 0 = .ok (.aload_n 0, 1) := by decide +kernel
theorem dX3_put_1 : decode cX3_put 1 = .ok (.dup, 1) := by decide +kernel
theorem dX3_put_2 : decode cX3_put 2 = .ok (.getfield 28, 3) := by decide +kernel
theorem dX3_put_5 : decode cX3_put 5 = .ok (.iconst 1, 1) := by decide +kernel
theorem dX3_put_6 : decode cX3_put 6 = .ok (.iload_n 1, 1) := by decide +kernel
theorem dX3_put_7 : decode cX3_put 7 = .ok (.ishl, 1) := by decide +kernel
theorem dX3_put_8 : decode cX3_put 8 = .ok (.ior, 1) := by decide +kernel
theorem dX3_put_9 : decode cX3_put 9 = .ok (.putfield 28, 3) := by decide +kernel
theorem dX3_put_12 : decode cX3_put 12 = .ok (.aload_n 0, 1) := by decide +kernel
theorem dX3_put_13 : decode cX3_put 13 = .ok (.getfield 9, 3) := by decide +kernel
theorem dX3_put_16 : decode cX3_put 16 = .ok (.iload_n 1, 1) := by decide +kernel
theorem dX3_put_17 : decode cX3_put 17 = .ok (.iload_n 2, 1) := by decide +kernel
theorem dX3_put_18 : decode cX3_put 18 = .ok (.iastore, 1) := by decide +kernel
theorem dX3_put_19 : decode cX3_put 19 = .ok (.aload_n 0, 1) := by decide +kernel
theorem dX3_put_20 : decode cX3_put 20 = .ok (.getfield 15, 3) := by decide +kernel
theorem dX3_put_23 : decode cX3_put 23 = .ok (.iload_n 1, 1) := by decide +kernel
theorem dX3_put_24 : decode cX3_put 24 = .ok (.lload_n 3, 1) := by decide +kernel
theorem dX3_put_25 : decode cX3_put 25 = .ok (.lastore, 1) := by decide +kernel
theorem dX3_put_26 : decode cX3_put 26 = .ok (.aload_n 0, 1) := by decide +kernel
theorem dX3_put_27 : decode cX3_put 27 = .ok (.invokevirtual 52, 3) := by decide +kernel
theorem dX3_put_30 : decode cX3_put 30 = .ok (.return_, 1) := by decide +kernel
set_option maxRecDepth 20000 in
theorem ggX3_remove_X3_joinsFrom : GoodIn wsX3_remove wsX3_joinsFrom := goodIn_r _ [7, 8, 9, 10, 6, 11, 12, 46, 47, 48, 49, 50, 51, 52, 53] (by decide +kernel) (by decide +kernel)
set_option maxRecDepth 20000 in
theorem gX3_remove_X3_joinsFrom : GoodIn wsX3_remove (wsV RX3 55 RX3 yX3_joinsFrom wsX3_joinsFrom) := goodIn_app (goodIn_of _ (by decide +kernel)) ggX3_remove_X3_joinsFrom
set_option maxRecDepth 20000 in
theorem ggX3_remove_X3_joinsTo : GoodIn wsX3_remove wsX3_joinsTo := goodIn_r _ [16, 8, 9, 10, 6, 11, 12, 46, 47, 48, 49, 50, 51, 52, 53] (by decide +kernel) (by decide +kernel)
set_option maxRecDepth 20000 in
theorem gX3_remove_X3_joinsTo : GoodIn wsX3_remove (wsV RX3 59 RX3 yX3_joinsTo wsX3_joinsTo) := goodIn_app (goodIn_of _ (by decide +kernel)) ggX3_remove_X3_joinsTo
set_option maxRecDepth 20000 in
theorem ggX3_remove_X3_setJoin : GoodIn wsX3_remove wsX3_setJoin := goodIn_r _ [20, 12, 21, 22, 23, 24, 25, 26, 27, 46, 47, 48, 49, 50, 51, 52, 53] (by decide +kernel) (by decide +kernel)
set_option maxRecDepth 20000 in
theorem gX3_remove_X3_setJoin : GoodIn wsX3_remove (wsV RX3 62 RX3 yX3_setJoin wsX3_setJoin) := goodIn_app (goodIn_of _ (by decide +kernel)) ggX3_remove_X3_setJoin
set_option maxRecDepth 20000 in
theorem ggX3_remove_X3_settle : GoodIn wsX3_remove wsX3_settle := goodIn_r _ [31, 32, 1, 33, 34, 35, 36, 6, 37, 38, 39, 40, 41, 42, 43, 44, 45, 21, 46, 47, 48, 49, 50, 51, 52, 53] (by decide +kernel) (by decide +kernel)
set_option maxRecDepth 20000 in
theorem gX3_remove_X3_settle : GoodIn wsX3_remove (wsV RX3 52 RX3 yX3_settle wsX3_settle) := goodIn_app (goodIn_of _ (by decide +kernel)) ggX3_remove_X3_settle
theorem dX3_remove_0 : decode cX3_remove 0 = .ok (.aload_n 0, 1) := by decide +kernel
theorem dX3_remove_1 : decode cX3_remove 1 = .ok (.iload_n 1, 1) := by decide +kernel
theorem dX3_remove_2 : decode cX3_remove 2 = .ok (.invokevirtual 55, 3) := by decide +kernel
theorem dX3_remove_5 : decode cX3_remove 5 = .ok (.aload_n 0, 1) := by decide +kernel
theorem dX3_remove_6 : decode cX3_remove 6 = .ok (.iload_n 1, 1) := by decide +kernel
theorem dX3_remove_7 : decode cX3_remove 7 = .ok (.invokevirtual 59, 3) := by decide +kernel
theorem dX3_remove_10 : decode cX3_remove 10 = .ok (.iadd, 1) := by decide +kernel
theorem dX3_remove_11 : decode cX3_remove 11 = .ok (.istore_n 2, 1) := by decide +kernel
theorem dX3_remove_12 : decode cX3_remove 12 = .ok (.iconst 0, 1) := by decide +kernel
theorem dX3_remove_13 : decode cX3_remove 13 = .ok (.istore_n 3, 1) := by decide +kernel
theorem dX3_remove_14 : decode cX3_remove 14 = .ok (.iload_n 3, 1) := by decide +kernel
theorem dX3_remove_15 : decode cX3_remove 15 = .ok (.bipush 8, 2) := by decide +kernel
theorem dX3_remove_17 : decode cX3_remove 17 = .ok (.if_icmp .ge 23, 3) := by decide +kernel
theorem dX3_remove_20 : decode cX3_remove 20 = .ok (.aload_n 0, 1) := by decide +kernel
theorem dX3_remove_21 : decode cX3_remove 21 = .ok (.iload_n 1, 1) := by decide +kernel
theorem dX3_remove_22 : decode cX3_remove 22 = .ok (.iload_n 3, 1) := by decide +kernel
theorem dX3_remove_23 : decode cX3_remove 23 = .ok (.iconst (-1), 1) := by decide +kernel
theorem dX3_remove_24 : decode cX3_remove 24 = .ok (.invokevirtual 62, 3) := by decide +kernel
theorem dX3_remove_27 : decode cX3_remove 27 = .ok (.aload_n 0, 1) := by decide +kernel
theorem dX3_remove_28 : decode cX3_remove 28 = .ok (.iload_n 3, 1) := by decide +kernel
theorem dX3_remove_29 : decode cX3_remove 29 = .ok (.iload_n 1, 1) := by decide +kernel
theorem dX3_remove_30 : decode cX3_remove 30 = .ok (.iconst (-1), 1) := by decide +kernel
theorem dX3_remove_31 : decode cX3_remove 31 = .ok (.invokevirtual 62, 3) := by decide +kernel
theorem dX3_remove_34 : decode cX3_remove 34 = .ok (.iinc 3 1, 3) := by decide +kernel
theorem dX3_remove_37 : decode cX3_remove 37 = .ok (.goto (-23), 3) := by decide +kernel
theorem dX3_remove_40 : decode cX3_remove 40 = .ok (.aload_n 0, 1) := by decide +kernel
theorem dX3_remove_41 : decode cX3_remove 41 = .ok (.dup, 1) := by decide +kernel
theorem dX3_remove_42 : decode cX3_remove 42 = .ok (.getfield 28, 3) := by decide +kernel
theorem dX3_remove_45 : decode cX3_remove 45 = .ok (.iconst 1, 1) := by decide +kernel
theorem dX3_remove_46 : decode cX3_remove 46 = .ok (.iload_n 1, 1) := by decide +kernel
theorem dX3_remove_47 : decode cX3_remove 47 = .ok (.ishl, 1) := by decide +kernel
theorem dX3_remove_48 : decode cX3_remove 48 = .ok (.iconst (-1), 1) := by decide +kernel
theorem dX3_remove_49 : decode cX3_remove 49 = .ok (.ixor, 1) := by decide +kernel
theorem dX3_remove_50 : decode cX3_remove 50 = .ok (.iand, 1) := by decide +kernel
theorem dX3_remove_51 : decode cX3_remove 51 = .ok (.putfield 28, 3) := by decide +kernel
theorem dX3_remove_54 : decode cX3_remove 54 = .ok (.aload_n 0, 1) := by decide +kernel
theorem dX3_remove_55 : decode cX3_remove 55 = .ok (.dup, 1) := by decide +kernel
theorem dX3_remove_56 : decode cX3_remove 56 = .ok (.getfield 32, 3) := by decide +kernel
theorem dX3_remove_59 : decode cX3_remove 59 = .ok (.iconst 1, 1) := by decide +kernel
theorem dX3_remove_60 : decode cX3_remove 60 = .ok (.iadd, 1) := by decide +kernel
theorem dX3_remove_61 : decode cX3_remove 61 = .ok (.putfield 32, 3) := by decide +kernel
theorem dX3_remove_64 : decode cX3_remove 64 = .ok (.aload_n 0, 1) := by decide +kernel
theorem dX3_remove_65 : decode cX3_remove 65 = .ok (.invokevirtual 52, 3) := by decide +kernel
theorem dX3_remove_68 : decode cX3_remove 68 = .ok (.iload_n 2, 1) := by decide +kernel
theorem dX3_remove_69 : decode cX3_remove 69 = .ok (.ireturn, 1) := by decide +kernel
theorem dX3_kindOf_0 : decode cX3_kindOf 0 = .ok (.aload_n 0, 1) := by decide +kernel
theorem dX3_kindOf_1 : decode cX3_kindOf 1 = .ok (.getfield 19, 3) := by decide +kernel
theorem dX3_kindOf_4 : decode cX3_kindOf 4 = .ok (.iload_n 1, 1) := by decide +kernel
theorem dX3_kindOf_5 : decode cX3_kindOf 5 = .ok (.bipush 8, 2) := by decide +kernel
theorem dX3_kindOf_7 : decode cX3_kindOf 7 = .ok (.imul, 1) := by decide +kernel
theorem dX3_kindOf_8 : decode cX3_kindOf 8 = .ok (.iload_n 2, 1) := by decide +kernel
theorem dX3_kindOf_9 : decode cX3_kindOf 9 = .ok (.iadd, 1) := by decide +kernel
theorem dX3_kindOf_10 : decode cX3_kindOf 10 = .ok (.iaload, 1) := by decide +kernel
theorem dX3_kindOf_11 : decode cX3_kindOf 11 = .ok (.ireturn, 1) := by decide +kernel
set_option maxRecDepth 20000 in
theorem ggX3_setKind_X3_setJoin : GoodIn wsX3_setKind wsX3_setJoin := goodIn_r _ [5, 6, 7, 8, 9, 10, 11, 12, 13, 33, 34, 35, 36, 37, 38, 39, 40] (by decide +kernel) (by decide +kernel)
set_option maxRecDepth 20000 in
theorem gX3_setKind_X3_setJoin : GoodIn wsX3_setKind (wsV RX3 62 RX3 yX3_setJoin wsX3_setJoin) := goodIn_app (goodIn_of _ (by decide +kernel)) ggX3_setKind_X3_setJoin
set_option maxRecDepth 20000 in
theorem ggX3_setKind_X3_settle : GoodIn wsX3_setKind wsX3_settle := goodIn_r _ [17, 18, 19, 20, 21, 22, 23, 4, 24, 25, 26, 27, 28, 29, 30, 31, 32, 7, 33, 34, 35, 36, 37, 38, 39, 40] (by decide +kernel) (by decide +kernel)
set_option maxRecDepth 20000 in
theorem gX3_setKind_X3_settle : GoodIn wsX3_setKind (wsV RX3 52 RX3 yX3_settle wsX3_settle) := goodIn_app (goodIn_of _ (by decide +kernel)) ggX3_setKind_X3_settle
theorem dX3_setKind_0 : decode cX3_setKind 0 = .ok (.aload_n 0, 1) := by decide +kernel
theorem dX3_setKind_1 : decode cX3_setKind 1 = .ok (.iload_n 1, 1) := by decide +kernel
theorem dX3_setKind_2 : decode cX3_setKind 2 = .ok (.iload_n 2, 1) := by decide +kernel
theorem dX3_setKind_3 : decode cX3_setKind 3 = .ok (.iload_n 3, 1) := by decide +kernel
theorem dX3_setKind_4 : decode cX3_setKind 4 = .ok (.invokevirtual 62, 3) := by decide +kernel
theorem dX3_setKind_7 : decode cX3_setKind 7 = .ok (.aload_n 0, 1) := by decide +kernel
theorem dX3_setKind_8 : decode cX3_setKind 8 = .ok (.invokevirtual 52, 3) := by decide +kernel
theorem dX3_setKind_11 : decode cX3_setKind 11 = .ok (.return_, 1) := by decide +kernel
set_option maxRecDepth 20000 in
theorem ggX3_lets_X3_kindOf : GoodIn wsX3_lets wsX3_kindOf := goodIn_r _ [5, 6, 7, 8, 9, 10, 11, 12, 13, 14] (by decide +kernel) (by decide +kernel)
set_option maxRecDepth 20000 in
theorem gX3_lets_X3_kindOf : GoodIn wsX3_lets (wsV RX3 66 RX3 yX3_kindOf wsX3_kindOf) := goodIn_app (goodIn_of _ (by decide +kernel)) ggX3_lets_X3_kindOf
theorem dX3_lets_0 : decode cX3_lets 0 = .ok (.aload_n 0, 1) := by decide +kernel
theorem dX3_lets_1 : decode cX3_lets 1 = .ok (.iload_n 1, 1) := by decide +kernel
theorem dX3_lets_2 : decode cX3_lets 2 = .ok (.iload_n 2, 1) := by decide +kernel
theorem dX3_lets_3 : decode cX3_lets 3 = .ok (.invokevirtual 66, 3) := by decide +kernel
theorem dX3_lets_6 : decode cX3_lets 6 = .ok (.istore 4, 2) := by decide +kernel
theorem dX3_lets_8 : decode cX3_lets 8 = .ok (.iload 4, 2) := by decide +kernel
theorem dX3_lets_10 : decode cX3_lets 10 = .ok (.iconst (-1), 1) := by decide +kernel
theorem dX3_lets_11 : decode cX3_lets 11 = .ok (.if_icmp .eq 13, 3) := by decide +kernel
theorem dX3_lets_14 : decode cX3_lets 14 = .ok (.iload_n 3, 1) := by decide +kernel
theorem dX3_lets_15 : decode cX3_lets 15 = .ok (.iload 4, 2) := by decide +kernel
theorem dX3_lets_17 : decode cX3_lets 17 = .ok (.if_icmp .le 7, 3) := by decide +kernel
theorem dX3_lets_20 : decode cX3_lets 20 = .ok (.iconst 1, 1) := by decide +kernel
theorem dX3_lets_21 : decode cX3_lets 21 = .ok (.goto 4, 3) := by decide +kernel
theorem dX3_lets_24 : decode cX3_lets 24 = .ok (.iconst 0, 1) := by decide +kernel
theorem dX3_lets_25 : decode cX3_lets 25 = .ok (.ireturn, 1) := by decide +kernel
set_option maxRecDepth 20000 in
theorem ggX3_reachHeld_X4_greatest : GoodIn wsX3_reachHeld wsX4_greatest := goodIn_r _ [5, 6, 7, 8] (by decide +kernel) (by decide +kernel)
set_option maxRecDepth 20000 in
theorem gX3_reachHeld_X4_greatest : GoodIn wsX3_reachHeld (va_wsS RX3 70 yX4_greatest wsX4_greatest) := goodIn_app (goodIn_of _ (by decide +kernel)) ggX3_reachHeld_X4_greatest
theorem dX3_reachHeld_0 : decode cX3_reachHeld 0 = .ok (.aload_n 0, 1) := by decide +kernel
theorem dX3_reachHeld_1 : decode cX3_reachHeld 1 = .ok (.getfield 25, 3) := by decide +kernel
theorem dX3_reachHeld_4 : decode cX3_reachHeld 4 = .ok (.iload_n 1, 1) := by decide +kernel
theorem dX3_reachHeld_5 : decode cX3_reachHeld 5 = .ok (.laload, 1) := by decide +kernel
theorem dX3_reachHeld_6 : decode cX3_reachHeld 6 = .ok (.iload_n 2, 1) := by decide +kernel
theorem dX3_reachHeld_7 : decode cX3_reachHeld 7 = .ok (.invokestatic 70, 3) := by decide +kernel
theorem dX3_reachHeld_10 : decode cX3_reachHeld 10 = .ok (.ireturn, 1) := by decide +kernel
set_option maxRecDepth 20000 in
theorem ggX3_joinsFrom_X3_kindOf : GoodIn wsX3_joinsFrom wsX3_kindOf := goodIn_r _ [5, 6, 7, 8, 9, 10, 11, 12, 13, 14] (by decide +kernel) (by decide +kernel)
set_option maxRecDepth 20000 in
theorem gX3_joinsFrom_X3_kindOf : GoodIn wsX3_joinsFrom (wsV RX3 66 RX3 yX3_kindOf wsX3_kindOf) := goodIn_app (goodIn_of _ (by decide +kernel)) ggX3_joinsFrom_X3_kindOf
theorem dX3_joinsFrom_0 : decode cX3_joinsFrom 0 = .ok (.iconst 0, 1) := by decide +kernel
theorem dX3_joinsFrom_1 : decode cX3_joinsFrom 1 = .ok (.istore_n 2, 1) := by decide +kernel
theorem dX3_joinsFrom_2 : decode cX3_joinsFrom 2 = .ok (.iconst 0, 1) := by decide +kernel
theorem dX3_joinsFrom_3 : decode cX3_joinsFrom 3 = .ok (.istore_n 3, 1) := by decide +kernel
theorem dX3_joinsFrom_4 : decode cX3_joinsFrom 4 = .ok (.iload_n 3, 1) := by decide +kernel
theorem dX3_joinsFrom_5 : decode cX3_joinsFrom 5 = .ok (.bipush 8, 2) := by decide +kernel
theorem dX3_joinsFrom_7 : decode cX3_joinsFrom 7 = .ok (.if_icmp .ge 27, 3) := by decide +kernel
theorem dX3_joinsFrom_10 : decode cX3_joinsFrom 10 = .ok (.iload_n 2, 1) := by decide +kernel
theorem dX3_joinsFrom_11 : decode cX3_joinsFrom 11 = .ok (.aload_n 0, 1) := by decide +kernel
theorem dX3_joinsFrom_12 : decode cX3_joinsFrom 12 = .ok (.iload_n 1, 1) := by decide +kernel
theorem dX3_joinsFrom_13 : decode cX3_joinsFrom 13 = .ok (.iload_n 3, 1) := by decide +kernel
theorem dX3_joinsFrom_14 : decode cX3_joinsFrom 14 = .ok (.invokevirtual 66, 3) := by decide +kernel
theorem dX3_joinsFrom_17 : decode cX3_joinsFrom 17 = .ok (.iconst (-1), 1) := by decide +kernel
theorem dX3_joinsFrom_18 : decode cX3_joinsFrom 18 = .ok (.if_icmp .ne 7, 3) := by decide +kernel
theorem dX3_joinsFrom_21 : decode cX3_joinsFrom 21 = .ok (.iconst 0, 1) := by decide +kernel
theorem dX3_joinsFrom_22 : decode cX3_joinsFrom 22 = .ok (.goto 4, 3) := by decide +kernel
theorem dX3_joinsFrom_25 : decode cX3_joinsFrom 25 = .ok (.iconst 1, 1) := by decide +kernel
theorem dX3_joinsFrom_26 : decode cX3_joinsFrom 26 = .ok (.iadd, 1) := by decide +kernel
theorem dX3_joinsFrom_27 : decode cX3_joinsFrom 27 = .ok (.istore_n 2, 1) := by decide +kernel
theorem dX3_joinsFrom_28 : decode cX3_joinsFrom 28 = .ok (.iinc 3 1, 3) := by decide +kernel
theorem dX3_joinsFrom_31 : decode cX3_joinsFrom 31 = .ok (.goto (-27), 3) := by decide +kernel
theorem dX3_joinsFrom_34 : decode cX3_joinsFrom 34 = .ok (.iload_n 2, 1) := by decide +kernel
theorem dX3_joinsFrom_35 : decode cX3_joinsFrom 35 = .ok (.ireturn, 1) := by decide +kernel
set_option maxRecDepth 20000 in
theorem ggX3_joinsTo_X3_kindOf : GoodIn wsX3_joinsTo wsX3_kindOf := goodIn_r _ [5, 6, 7, 8, 9, 10, 11, 12, 13, 14] (by decide +kernel) (by decide +kernel)
set_option maxRecDepth 20000 in
theorem gX3_joinsTo_X3_kindOf : GoodIn wsX3_joinsTo (wsV RX3 66 RX3 yX3_kindOf wsX3_kindOf) := goodIn_app (goodIn_of _ (by decide +kernel)) ggX3_joinsTo_X3_kindOf
theorem dX3_joinsTo_0 : decode cX3_joinsTo 0 = .ok (.iconst 0, 1) := by decide +kernel
theorem dX3_joinsTo_1 : decode cX3_joinsTo 1 = .ok (.istore_n 2, 1) := by decide +kernel
theorem dX3_joinsTo_2 : decode cX3_joinsTo 2 = .ok (.iconst 0, 1) := by decide +kernel
theorem dX3_joinsTo_3 : decode cX3_joinsTo 3 = .ok (.istore_n 3, 1) := by decide +kernel
theorem dX3_joinsTo_4 : decode cX3_joinsTo 4 = .ok (.iload_n 3, 1) := by decide +kernel
theorem dX3_joinsTo_5 : decode cX3_joinsTo 5 = .ok (.bipush 8, 2) := by decide +kernel
theorem dX3_joinsTo_7 : decode cX3_joinsTo 7 = .ok (.if_icmp .ge 27, 3) := by decide +kernel
theorem dX3_joinsTo_10 : decode cX3_joinsTo 10 = .ok (.iload_n 2, 1) := by decide +kernel
theorem dX3_joinsTo_11 : decode cX3_joinsTo 11 = .ok (.aload_n 0, 1) := by decide +kernel
theorem dX3_joinsTo_12 : decode cX3_joinsTo 12 = .ok (.iload_n 3, 1) := by decide +kernel
theorem dX3_joinsTo_13 : decode cX3_joinsTo 13 = .ok (.iload_n 1, 1) := by decide +kernel
theorem dX3_joinsTo_14 : decode cX3_joinsTo 14 = .ok (.invokevirtual 66, 3) := by decide +kernel
theorem dX3_joinsTo_17 : decode cX3_joinsTo 17 = .ok (.iconst (-1), 1) := by decide +kernel
theorem dX3_joinsTo_18 : decode cX3_joinsTo 18 = .ok (.if_icmp .ne 7, 3) := by decide +kernel
theorem dX3_joinsTo_21 : decode cX3_joinsTo 21 = .ok (.iconst 0, 1) := by decide +kernel
theorem dX3_joinsTo_22 : decode cX3_joinsTo 22 = .ok (.goto 4, 3) := by decide +kernel
theorem dX3_joinsTo_25 : decode cX3_joinsTo 25 = .ok (.iconst 1, 1) := by decide +kernel
theorem dX3_joinsTo_26 : decode cX3_joinsTo 26 = .ok (.iadd, 1) := by decide +kernel
theorem dX3_joinsTo_27 : decode cX3_joinsTo 27 = .ok (.istore_n 2, 1) := by decide +kernel
theorem dX3_joinsTo_28 : decode cX3_joinsTo 28 = .ok (.iinc 3 1, 3) := by decide +kernel
theorem dX3_joinsTo_31 : decode cX3_joinsTo 31 = .ok (.goto (-27), 3) := by decide +kernel
theorem dX3_joinsTo_34 : decode cX3_joinsTo 34 = .ok (.iload_n 2, 1) := by decide +kernel
theorem dX3_joinsTo_35 : decode cX3_joinsTo 35 = .ok (.ireturn, 1) := by decide +kernel
set_option maxRecDepth 20000 in
theorem ggX3_joins_X3_joinsFrom : GoodIn wsX3_joins wsX3_joinsFrom := goodIn_r _ [5, 6, 7, 8, 4, 9, 10, 11, 12, 13, 14, 15, 16, 17, 18] (by decide +kernel) (by decide +kernel)
set_option maxRecDepth 20000 in
theorem gX3_joins_X3_joinsFrom : GoodIn wsX3_joins (wsV RX3 55 RX3 yX3_joinsFrom wsX3_joinsFrom) := goodIn_app (goodIn_of _ (by decide +kernel)) ggX3_joins_X3_joinsFrom
theorem dX3_joins_0 : decode cX3_joins 0 = .ok (.iconst 0, 1) := by decide +kernel
theorem dX3_joins_1 : decode cX3_joins 1 = .ok (.istore_n 1, 1) := by decide +kernel
theorem dX3_joins_2 : decode cX3_joins 2 = .ok (.iconst 0, 1) := by decide +kernel
theorem dX3_joins_3 : decode cX3_joins 3 = .ok (.istore_n 2, 1) := by decide +kernel
theorem dX3_joins_4 : decode cX3_joins 4 = .ok (.iload_n 2, 1) := by decide +kernel
theorem dX3_joins_5 : decode cX3_joins 5 = .ok (.bipush 8, 2) := by decide +kernel
theorem dX3_joins_7 : decode cX3_joins 7 = .ok (.if_icmp .ge 17, 3) := by decide +kernel
theorem dX3_joins_10 : decode cX3_joins 10 = .ok (.iload_n 1, 1) := by decide +kernel
theorem dX3_joins_11 : decode cX3_joins 11 = .ok (.aload_n 0, 1) := by decide +kernel
theorem dX3_joins_12 : decode cX3_joins 12 = .ok (.iload_n 2, 1) := by decide +kernel
theorem dX3_joins_13 : decode cX3_joins 13 = .ok (.invokevirtual 55, 3) := by decide +kernel
theorem dX3_joins_16 : decode cX3_joins 16 = .ok (.iadd, 1) := by decide +kernel
theorem dX3_joins_17 : decode cX3_joins 17 = .ok (.istore_n 1, 1) := by decide +kernel
theorem dX3_joins_18 : decode cX3_joins 18 = .ok (.iinc 2 1, 3) := by decide +kernel
theorem dX3_joins_21 : decode cX3_joins 21 = .ok (.goto (-17), 3) := by decide +kernel
theorem dX3_joins_24 : decode cX3_joins 24 = .ok (.iload_n 1, 1) := by decide +kernel
theorem dX3_joins_25 : decode cX3_joins 25 = .ok (.ireturn, 1) := by decide +kernel
set_option maxRecDepth 20000 in
theorem ggX3_namesOf_X6_isSet : GoodIn wsX3_namesOf wsX6_isSet := goodIn_r _ [3] (by decide +kernel) (by decide +kernel)
set_option maxRecDepth 20000 in
theorem gX3_namesOf_X6_isSet_n44 : GoodIn wsX3_namesOf (wsX6_isSet) := ggX3_namesOf_X6_isSet
set_option maxRecDepth 20000 in
theorem ggX3_namesOf_X3_namedBy : GoodIn wsX3_namesOf wsX3_namedBy := goodIn_r _ [8, 9, 10, 11, 7, 12, 13, 14, 15, 16, 17, 18, 19, 20, 21] (by decide +kernel) (by decide +kernel)
set_option maxRecDepth 20000 in
theorem gX3_namesOf_X3_namedBy : GoodIn wsX3_namesOf (wsV RX3 76 RX3 yX3_namedBy wsX3_namedBy) := goodIn_app (goodIn_of _ (by decide +kernel)) ggX3_namesOf_X3_namedBy
theorem dX3_namesOf_0 : decode cX3_namesOf 0 = .ok (.iconst 1, 1) := by decide +kernel
theorem dX3_namesOf_1 : decode cX3_namesOf 1 = .ok (.iload_n 1, 1) := by decide +kernel
theorem dX3_namesOf_2 : decode cX3_namesOf 2 = .ok (.ishl, 1) := by decide +kernel
theorem dX3_namesOf_3 : decode cX3_namesOf 3 = .ok (.istore_n 2, 1) := by decide +kernel
theorem dX3_namesOf_4 : decode cX3_namesOf 4 = .ok (.iconst 0, 1) := by decide +kernel
theorem dX3_namesOf_5 : decode cX3_namesOf 5 = .ok (.istore_n 3, 1) := by decide +kernel
theorem dX3_namesOf_6 : decode cX3_namesOf 6 = .ok (.iload_n 3, 1) := by decide +kernel
theorem dX3_namesOf_7 : decode cX3_namesOf 7 = .ok (.bipush 8, 2) := by decide +kernel
theorem dX3_namesOf_9 : decode cX3_namesOf 9 = .ok (.if_icmp .ge 48, 3) := by decide +kernel
theorem dX3_namesOf_12 : decode cX3_namesOf 12 = .ok (.iconst 0, 1) := by decide +kernel
theorem dX3_namesOf_13 : decode cX3_namesOf 13 = .ok (.istore 4, 2) := by decide +kernel
theorem dX3_namesOf_15 : decode cX3_namesOf 15 = .ok (.iload 4, 2) := by decide +kernel
theorem dX3_namesOf_17 : decode cX3_namesOf 17 = .ok (.bipush 8, 2) := by decide +kernel
theorem dX3_namesOf_19 : decode cX3_namesOf 19 = .ok (.if_icmp .ge 32, 3) := by decide +kernel
theorem dX3_namesOf_22 : decode cX3_namesOf 22 = .ok (.iload_n 2, 1) := by decide +kernel
theorem dX3_namesOf_23 : decode cX3_namesOf 23 = .ok (.iload_n 2, 1) := by decide +kernel
theorem dX3_namesOf_24 : decode cX3_namesOf 24 = .ok (.i2l, 1) := by decide +kernel
theorem dX3_namesOf_25 : decode cX3_namesOf 25 = .ok (.iload 4, 2) := by decide +kernel
theorem dX3_namesOf_27 : decode cX3_namesOf 27 = .ok (.invokestatic 44, 3) := by decide +kernel
theorem dX3_namesOf_30 : decode cX3_namesOf 30 = .ok (.ifCond .eq 12, 3) := by decide +kernel
theorem dX3_namesOf_33 : decode cX3_namesOf 33 = .ok (.aload_n 0, 1) := by decide +kernel
theorem dX3_namesOf_34 : decode cX3_namesOf 34 = .ok (.iload 4, 2) := by decide +kernel
theorem dX3_namesOf_36 : decode cX3_namesOf 36 = .ok (.invokevirtual 76, 3) := by decide +kernel
theorem dX3_namesOf_39 : decode cX3_namesOf 39 = .ok (.goto 4, 3) := by decide +kernel
theorem dX3_namesOf_42 : decode cX3_namesOf 42 = .ok (.iconst 0, 1) := by decide +kernel
theorem dX3_namesOf_43 : decode cX3_namesOf 43 = .ok (.ior, 1) := by decide +kernel
theorem dX3_namesOf_44 : decode cX3_namesOf 44 = .ok (.istore_n 2, 1) := by decide +kernel
theorem dX3_namesOf_45 : decode cX3_namesOf 45 = .ok (.iinc 4 1, 3) := by decide +kernel
theorem dX3_namesOf_48 : decode cX3_namesOf 48 = .ok (.goto (-33), 3) := by decide +kernel
end
section
theorem dX3_namesOf_51 : decode cX3_namesOf 51 = .ok (.iinc 3 1, 3) := by decide +kernel
theorem dX3_namesOf_54 : decode cX3_namesOf 54 = .ok (.goto (-48), 3) := by decide +kernel
theorem dX3_namesOf_57 : decode cX3_namesOf 57 = .ok (.iload_n 2, 1) := by decide +kernel
theorem dX3_namesOf_58 : decode cX3_namesOf 58 = .ok (.iconst 1, 1) := by decide +kernel
theorem dX3_namesOf_59 : decode cX3_namesOf 59 = .ok (.iload_n 1, 1) := by decide +kernel
theorem dX3_namesOf_60 : decode cX3_namesOf 60 = .ok (.ishl, 1) := by decide +kernel
theorem dX3_namesOf_61 : decode cX3_namesOf 61 = .ok (.iconst (-1), 1) := by decide +kernel
theorem dX3_namesOf_62 : decode cX3_namesOf 62 = .ok (.ixor, 1) := by decide +kernel
theorem dX3_namesOf_63 : decode cX3_namesOf 63 = .ok (.iand, 1) := by decide +kernel
theorem dX3_namesOf_64 : decode cX3_namesOf 64 = .ok (.ireturn, 1) := by decide +kernel
set_option maxRecDepth 20000 in
theorem ggX3_namedBy_X3_kindOf : GoodIn wsX3_namedBy wsX3_kindOf := goodIn_r _ [5, 6, 7, 8, 9, 10, 11, 12, 13, 14] (by decide +kernel) (by decide +kernel)
set_option maxRecDepth 20000 in
theorem gX3_namedBy_X3_kindOf : GoodIn wsX3_namedBy (wsV RX3 66 RX3 yX3_kindOf wsX3_kindOf) := goodIn_app (goodIn_of _ (by decide +kernel)) ggX3_namedBy_X3_kindOf
theorem dX3_namedBy_0 : decode cX3_namedBy 0 = .ok (.iconst 0, 1) := by decide +kernel
theorem dX3_namedBy_1 : decode cX3_namedBy 1 = .ok (.istore_n 2, 1) := by decide +kernel
theorem dX3_namedBy_2 : decode cX3_namedBy 2 = .ok (.iconst 0, 1) := by decide +kernel
theorem dX3_namedBy_3 : decode cX3_namedBy 3 = .ok (.istore_n 3, 1) := by decide +kernel
theorem dX3_namedBy_4 : decode cX3_namedBy 4 = .ok (.iload_n 3, 1) := by decide +kernel
theorem dX3_namedBy_5 : decode cX3_namedBy 5 = .ok (.bipush 8, 2) := by decide +kernel
theorem dX3_namedBy_7 : decode cX3_namedBy 7 = .ok (.if_icmp .ge 39, 3) := by decide +kernel
theorem dX3_namedBy_10 : decode cX3_namedBy 10 = .ok (.aload_n 0, 1) := by decide +kernel
theorem dX3_namedBy_11 : decode cX3_namedBy 11 = .ok (.iload_n 1, 1) := by decide +kernel
theorem dX3_namedBy_12 : decode cX3_namedBy 12 = .ok (.iload_n 3, 1) := by decide +kernel
theorem dX3_namedBy_13 : decode cX3_namedBy 13 = .ok (.invokevirtual 66, 3) := by decide +kernel
theorem dX3_namedBy_16 : decode cX3_namedBy 16 = .ok (.istore 4, 2) := by decide +kernel
theorem dX3_namedBy_18 : decode cX3_namedBy 18 = .ok (.iload_n 2, 1) := by decide +kernel
theorem dX3_namedBy_19 : decode cX3_namedBy 19 = .ok (.iload 4, 2) := by decide +kernel
theorem dX3_namedBy_21 : decode cX3_namedBy 21 = .ok (.iconst (-1), 1) := by decide +kernel
theorem dX3_namedBy_22 : decode cX3_namedBy 22 = .ok (.if_icmp .eq 15, 3) := by decide +kernel
theorem dX3_namedBy_25 : decode cX3_namedBy 25 = .ok (.iload 4, 2) := by decide +kernel
theorem dX3_namedBy_27 : decode cX3_namedBy 27 = .ok (.iconst 1, 1) := by decide +kernel
theorem dX3_namedBy_28 : decode cX3_namedBy 28 = .ok (.if_icmp .gt 9, 3) := by decide +kernel
theorem dX3_namedBy_31 : decode cX3_namedBy 31 = .ok (.iconst 1, 1) := by decide +kernel
theorem dX3_namedBy_32 : decode cX3_namedBy 32 = .ok (.iload_n 3, 1) := by decide +kernel
theorem dX3_namedBy_33 : decode cX3_namedBy 33 = .ok (.ishl, 1) := by decide +kernel
theorem dX3_namedBy_34 : decode cX3_namedBy 34 = .ok (.goto 4, 3) := by decide +kernel
theorem dX3_namedBy_37 : decode cX3_namedBy 37 = .ok (.iconst 0, 1) := by decide +kernel
theorem dX3_namedBy_38 : decode cX3_namedBy 38 = .ok (.ior, 1) := by decide +kernel
theorem dX3_namedBy_39 : decode cX3_namedBy 39 = .ok (.istore_n 2, 1) := by decide +kernel
theorem dX3_namedBy_40 : decode cX3_namedBy 40 = .ok (.iinc 3 1, 3) := by decide +kernel
theorem dX3_namedBy_43 : decode cX3_namedBy 43 = .ok (.goto (-39), 3) := by decide +kernel
theorem dX3_namedBy_46 : decode cX3_namedBy 46 = .ok (.iload_n 2, 1) := by decide +kernel
theorem dX3_namedBy_47 : decode cX3_namedBy 47 = .ok (.ireturn, 1) := by decide +kernel
set_option maxRecDepth 20000 in
theorem ggX3_spread_X6_isSet : GoodIn wsX3_spread wsX6_isSet := goodIn_r _ [4] (by decide +kernel) (by decide +kernel)
set_option maxRecDepth 20000 in
theorem gX3_spread_X6_isSet_n44 : GoodIn wsX3_spread (wsX6_isSet) := ggX3_spread_X6_isSet
set_option maxRecDepth 20000 in
theorem ggX3_spread_X3_getsMore : GoodIn wsX3_spread wsX3_getsMore := goodIn_r _ [9, 10, 11, 12, 13, 14, 15, 16, 17, 18] (by decide +kernel) (by decide +kernel)
set_option maxRecDepth 20000 in
theorem gX3_spread_X3_getsMore : GoodIn wsX3_spread (wsV RX3 79 RX3 yX3_getsMore wsX3_getsMore) := goodIn_app (goodIn_of _ (by decide +kernel)) ggX3_spread_X3_getsMore
theorem dX3_spread_0 : decode cX3_spread 0 = .ok (.iconst 0, 1) := by decide +kernel
theorem dX3_spread_1 : decode cX3_spread 1 = .ok (.istore_n 3, 1) := by decide +kernel
theorem dX3_spread_2 : decode cX3_spread 2 = .ok (.iload_n 3, 1) := by decide +kernel
theorem dX3_spread_3 : decode cX3_spread 3 = .ok (.bipush 8, 2) := by decide +kernel
theorem dX3_spread_5 : decode cX3_spread 5 = .ok (.if_icmp .ge 31, 3) := by decide +kernel
theorem dX3_spread_8 : decode cX3_spread 8 = .ok (.aload_n 2, 1) := by decide +kernel
theorem dX3_spread_9 : decode cX3_spread 9 = .ok (.iload_n 3, 1) := by decide +kernel
theorem dX3_spread_10 : decode cX3_spread 10 = .ok (.iload_n 1, 1) := by decide +kernel
theorem dX3_spread_11 : decode cX3_spread 11 = .ok (.i2l, 1) := by decide +kernel
theorem dX3_spread_12 : decode cX3_spread 12 = .ok (.iload_n 3, 1) := by decide +kernel
theorem dX3_spread_13 : decode cX3_spread 13 = .ok (.invokestatic 44, 3) := by decide +kernel
theorem dX3_spread_16 : decode cX3_spread 16 = .ok (.ifCond .eq 12, 3) := by decide +kernel
theorem dX3_spread_19 : decode cX3_spread 19 = .ok (.aload_n 0, 1) := by decide +kernel
theorem dX3_spread_20 : decode cX3_spread 20 = .ok (.getfield 15, 3) := by decide +kernel
theorem dX3_spread_23 : decode cX3_spread 23 = .ok (.iload_n 3, 1) := by decide +kernel
theorem dX3_spread_24 : decode cX3_spread 24 = .ok (.laload, 1) := by decide +kernel
theorem dX3_spread_25 : decode cX3_spread 25 = .ok (.goto 4, 3) := by decide +kernel
theorem dX3_spread_28 : decode cX3_spread 28 = .ok (.lconst 0, 1) := by decide +kernel
theorem dX3_spread_29 : decode cX3_spread 29 = .ok (.lastore, 1) := by decide +kernel
theorem dX3_spread_30 : decode cX3_spread 30 = .ok (.iinc 3 1, 3) := by decide +kernel
theorem dX3_spread_33 : decode cX3_spread 33 = .ok (.goto (-31), 3) := by decide +kernel
theorem dX3_spread_36 : decode cX3_spread 36 = .ok (.iconst 1, 1) := by decide +kernel
theorem dX3_spread_37 : decode cX3_spread 37 = .ok (.istore_n 3, 1) := by decide +kernel
theorem dX3_spread_38 : decode cX3_spread 38 = .ok (.iconst 0, 1) := by decide +kernel
theorem dX3_spread_39 : decode cX3_spread 39 = .ok (.istore 4, 2) := by decide +kernel
theorem dX3_spread_41 : decode cX3_spread 41 = .ok (.iload_n 3, 1) := by decide +kernel
theorem dX3_spread_42 : decode cX3_spread 42 = .ok (.ifCond .eq 56, 3) := by decide +kernel
theorem dX3_spread_45 : decode cX3_spread 45 = .ok (.iload 4, 2) := by decide +kernel
theorem dX3_spread_47 : decode cX3_spread 47 = .ok (.bipush 8, 2) := by decide +kernel
theorem dX3_spread_49 : decode cX3_spread 49 = .ok (.if_icmp .ge 49, 3) := by decide +kernel
theorem dX3_spread_52 : decode cX3_spread 52 = .ok (.iconst 0, 1) := by decide +kernel
theorem dX3_spread_53 : decode cX3_spread 53 = .ok (.istore_n 3, 1) := by decide +kernel
theorem dX3_spread_54 : decode cX3_spread 54 = .ok (.iconst 0, 1) := by decide +kernel
theorem dX3_spread_55 : decode cX3_spread 55 = .ok (.istore 5, 2) := by decide +kernel
theorem dX3_spread_57 : decode cX3_spread 57 = .ok (.iload 5, 2) := by decide +kernel
theorem dX3_spread_59 : decode cX3_spread 59 = .ok (.bipush 8, 2) := by decide +kernel
theorem dX3_spread_61 : decode cX3_spread 61 = .ok (.if_icmp .ge 31, 3) := by decide +kernel
theorem dX3_spread_64 : decode cX3_spread 64 = .ok (.iload_n 1, 1) := by decide +kernel
theorem dX3_spread_65 : decode cX3_spread 65 = .ok (.i2l, 1) := by decide +kernel
theorem dX3_spread_66 : decode cX3_spread 66 = .ok (.iload 5, 2) := by decide +kernel
theorem dX3_spread_68 : decode cX3_spread 68 = .ok (.invokestatic 44, 3) := by decide +kernel
theorem dX3_spread_71 : decode cX3_spread 71 = .ok (.ifCond .eq 15, 3) := by decide +kernel
theorem dX3_spread_74 : decode cX3_spread 74 = .ok (.aload_n 0, 1) := by decide +kernel
theorem dX3_spread_75 : decode cX3_spread 75 = .ok (.iload 5, 2) := by decide +kernel
theorem dX3_spread_77 : decode cX3_spread 77 = .ok (.aload_n 2, 1) := by decide +kernel
theorem dX3_spread_78 : decode cX3_spread 78 = .ok (.invokevirtual 79, 3) := by decide +kernel
theorem dX3_spread_81 : decode cX3_spread 81 = .ok (.ifCond .eq 5, 3) := by decide +kernel
theorem dX3_spread_84 : decode cX3_spread 84 = .ok (.iconst 1, 1) := by decide +kernel
theorem dX3_spread_85 : decode cX3_spread 85 = .ok (.istore_n 3, 1) := by decide +kernel
theorem dX3_spread_86 : decode cX3_spread 86 = .ok (.iinc 5 1, 3) := by decide +kernel
theorem dX3_spread_89 : decode cX3_spread 89 = .ok (.goto (-32), 3) := by decide +kernel
theorem dX3_spread_92 : decode cX3_spread 92 = .ok (.iinc 4 1, 3) := by decide +kernel
theorem dX3_spread_95 : decode cX3_spread 95 = .ok (.goto (-54), 3) := by decide +kernel
theorem dX3_spread_98 : decode cX3_spread 98 = .ok (.return_, 1) := by decide +kernel
theorem dX3_getsMore_0 : decode cX3_getsMore 0 = .ok (.aload_n 2, 1) := by decide +kernel
theorem dX3_getsMore_1 : decode cX3_getsMore 1 = .ok (.iload_n 1, 1) := by decide +kernel
theorem dX3_getsMore_2 : decode cX3_getsMore 2 = .ok (.laload, 1) := by decide +kernel
theorem dX3_getsMore_3 : decode cX3_getsMore 3 = .ok (.lstore_n 3, 1) := by decide +kernel
theorem dX3_getsMore_4 : decode cX3_getsMore 4 = .ok (.lload_n 3, 1) := by decide +kernel
theorem dX3_getsMore_5 : decode cX3_getsMore 5 = .ok (.lstore 5, 2) := by decide +kernel
theorem dX3_getsMore_7 : decode cX3_getsMore 7 = .ok (.iconst 0, 1) := by decide +kernel
theorem dX3_getsMore_8 : decode cX3_getsMore 8 = .ok (.istore 7, 2) := by decide +kernel
theorem dX3_getsMore_10 : decode cX3_getsMore 10 = .ok (.iload 7, 2) := by decide +kernel
theorem dX3_getsMore_12 : decode cX3_getsMore 12 = .ok (.bipush 8, 2) := by decide +kernel
theorem dX3_getsMore_14 : decode cX3_getsMore 14 = .ok (.if_icmp .ge 31, 3) := by decide +kernel
theorem dX3_getsMore_17 : decode cX3_getsMore 17 = .ok (.lload 5, 2) := by decide +kernel
theorem dX3_getsMore_19 : decode cX3_getsMore 19 = .ok (.aload_n 2, 1) := by decide +kernel
theorem dX3_getsMore_20 : decode cX3_getsMore 20 = .ok (.iload 7, 2) := by decide +kernel
theorem dX3_getsMore_22 : decode cX3_getsMore 22 = .ok (.laload, 1) := by decide +kernel
theorem dX3_getsMore_23 : decode cX3_getsMore 23 = .ok (.aload_n 0, 1) := by decide +kernel
theorem dX3_getsMore_24 : decode cX3_getsMore 24 = .ok (.getfield 22, 3) := by decide +kernel
theorem dX3_getsMore_27 : decode cX3_getsMore 27 = .ok (.iload_n 1, 1) := by decide +kernel
theorem dX3_getsMore_28 : decode cX3_getsMore 28 = .ok (.bipush 8, 2) := by decide +kernel
theorem dX3_getsMore_30 : decode cX3_getsMore 30 = .ok (.imul, 1) := by decide +kernel
theorem dX3_getsMore_31 : decode cX3_getsMore 31 = .ok (.iload 7, 2) := by decide +kernel
theorem dX3_getsMore_33 : decode cX3_getsMore 33 = .ok (.iadd, 1) := by decide +kernel
theorem dX3_getsMore_34 : decode cX3_getsMore 34 = .ok (.laload, 1) := by decide +kernel
theorem dX3_getsMore_35 : decode cX3_getsMore 35 = .ok (.land, 1) := by decide +kernel
theorem dX3_getsMore_36 : decode cX3_getsMore 36 = .ok (.lor, 1) := by decide +kernel
theorem dX3_getsMore_37 : decode cX3_getsMore 37 = .ok (.lstore 5, 2) := by decide +kernel
theorem dX3_getsMore_39 : decode cX3_getsMore 39 = .ok (.iinc 7 1, 3) := by decide +kernel
theorem dX3_getsMore_42 : decode cX3_getsMore 42 = .ok (.goto (-32), 3) := by decide +kernel
theorem dX3_getsMore_45 : decode cX3_getsMore 45 = .ok (.aload_n 2, 1) := by decide +kernel
theorem dX3_getsMore_46 : decode cX3_getsMore 46 = .ok (.iload_n 1, 1) := by decide +kernel
theorem dX3_getsMore_47 : decode cX3_getsMore 47 = .ok (.lload 5, 2) := by decide +kernel
theorem dX3_getsMore_49 : decode cX3_getsMore 49 = .ok (.lastore, 1) := by decide +kernel
theorem dX3_getsMore_50 : decode cX3_getsMore 50 = .ok (.lload 5, 2) := by decide +kernel
theorem dX3_getsMore_52 : decode cX3_getsMore 52 = .ok (.lload_n 3, 1) := by decide +kernel
theorem dX3_getsMore_53 : decode cX3_getsMore 53 = .ok (.lcmp, 1) := by decide +kernel
theorem dX3_getsMore_54 : decode cX3_getsMore 54 = .ok (.ifCond .eq 7, 3) := by decide +kernel
theorem dX3_getsMore_57 : decode cX3_getsMore 57 = .ok (.iconst 1, 1) := by decide +kernel
theorem dX3_getsMore_58 : decode cX3_getsMore 58 = .ok (.goto 4, 3) := by decide +kernel
theorem dX3_getsMore_61 : decode cX3_getsMore 61 = .ok (.iconst 0, 1) := by decide +kernel
theorem dX3_getsMore_62 : decode cX3_getsMore 62 = .ok (.ireturn, 1) := by decide +kernel
set_option maxRecDepth 20000 in
theorem ggX3_setJoin_X4_letThrough : GoodIn wsX3_setJoin wsX4_letThrough := goodIn_r _ [6, 7, 8] (by decide +kernel) (by decide +kernel)
set_option maxRecDepth 20000 in
theorem gX3_setJoin_X4_letThrough : GoodIn wsX3_setJoin (va_wsS RX3 83 yX4_letThrough wsX4_letThrough) := goodIn_app (goodIn_of _ (by decide +kernel)) ggX3_setJoin_X4_letThrough
theorem dX3_setJoin_0 : decode cX3_setJoin 0 = .ok (.aload_n 0, 1) := by decide +kernel
theorem dX3_setJoin_1 : decode cX3_setJoin 1 = .ok (.getfield 19, 3) := by decide +kernel
theorem dX3_setJoin_4 : decode cX3_setJoin 4 = .ok (.iload_n 1, 1) := by decide +kernel
theorem dX3_setJoin_5 : decode cX3_setJoin 5 = .ok (.bipush 8, 2) := by decide +kernel
theorem dX3_setJoin_7 : decode cX3_setJoin 7 = .ok (.imul, 1) := by decide +kernel
theorem dX3_setJoin_8 : decode cX3_setJoin 8 = .ok (.iload_n 2, 1) := by decide +kernel
theorem dX3_setJoin_9 : decode cX3_setJoin 9 = .ok (.iadd, 1) := by decide +kernel
theorem dX3_setJoin_10 : decode cX3_setJoin 10 = .ok (.iload_n 3, 1) := by decide +kernel
theorem dX3_setJoin_11 : decode cX3_setJoin 11 = .ok (.iastore, 1) := by decide +kernel
theorem dX3_setJoin_12 : decode cX3_setJoin 12 = .ok (.aload_n 0, 1) := by decide +kernel
theorem dX3_setJoin_13 : decode cX3_setJoin 13 = .ok (.getfield 22, 3) := by decide +kernel
theorem dX3_setJoin_16 : decode cX3_setJoin 16 = .ok (.iload_n 1, 1) := by decide +kernel
theorem dX3_setJoin_17 : decode cX3_setJoin 17 = .ok (.bipush 8, 2) := by decide +kernel
theorem dX3_setJoin_19 : decode cX3_setJoin 19 = .ok (.imul, 1) := by decide +kernel
theorem dX3_setJoin_20 : decode cX3_setJoin 20 = .ok (.iload_n 2, 1) := by decide +kernel
theorem dX3_setJoin_21 : decode cX3_setJoin 21 = .ok (.iadd, 1) := by decide +kernel
theorem dX3_setJoin_22 : decode cX3_setJoin 22 = .ok (.iload_n 3, 1) := by decide +kernel
theorem dX3_setJoin_23 : decode cX3_setJoin 23 = .ok (.invokestatic 83, 3) := by decide +kernel
theorem dX3_setJoin_26 : decode cX3_setJoin 26 = .ok (.lastore, 1) := by decide +kernel
theorem dX3_setJoin_27 : decode cX3_setJoin 27 = .ok (.return_, 1) := by decide +kernel
set_option maxRecDepth 20000 in
theorem ggX3_settle_X3_spread : GoodIn wsX3_settle wsX3_spread := goodIn_r _ [8, 9, 10, 11, 12, 13, 14, 15, 7, 16, 17, 18, 19, 20, 21, 22, 23, 24, 25] (by decide +kernel) (by decide +kernel)
set_option maxRecDepth 20000 in
theorem gX3_settle_X3_spread : GoodIn wsX3_settle (wsV RX3 87 RX3 yX3_spread wsX3_spread) := goodIn_app (goodIn_of _ (by decide +kernel)) ggX3_settle_X3_spread
theorem dX3_settle_0 : decode cX3_settle 0 = .ok (.aload_n 0, 1) := by decide +kernel
theorem dX3_settle_1 : decode cX3_settle 1 = .ok (.dup, 1) := by decide +kernel
theorem dX3_settle_2 : decode cX3_settle 2 = .ok (.getfield 35, 3) := by decide +kernel
theorem dX3_settle_5 : decode cX3_settle 5 = .ok (.iconst 1, 1) := by decide +kernel
theorem dX3_settle_6 : decode cX3_settle 6 = .ok (.iadd, 1) := by decide +kernel
theorem dX3_settle_7 : decode cX3_settle 7 = .ok (.putfield 35, 3) := by decide +kernel
theorem dX3_settle_10 : decode cX3_settle 10 = .ok (.aload_n 0, 1) := by decide +kernel
theorem dX3_settle_11 : decode cX3_settle 11 = .ok (.aload_n 0, 1) := by decide +kernel
theorem dX3_settle_12 : decode cX3_settle 12 = .ok (.getfield 28, 3) := by decide +kernel
theorem dX3_settle_15 : decode cX3_settle 15 = .ok (.aload_n 0, 1) := by decide +kernel
theorem dX3_settle_16 : decode cX3_settle 16 = .ok (.getfield 25, 3) := by decide +kernel
theorem dX3_settle_19 : decode cX3_settle 19 = .ok (.invokevirtual 87, 3) := by decide +kernel
theorem dX3_settle_22 : decode cX3_settle 22 = .ok (.return_, 1) := by decide +kernel
theorem dX4_rowsFor_0 : decode cX4_rowsFor 0 = .ok (.lconst 0, 1) := by decide +kernel
theorem dX4_rowsFor_1 : decode cX4_rowsFor 1 = .ok (.lstore_n 2, 1) := by decide +kernel
theorem dX4_rowsFor_2 : decode cX4_rowsFor 2 = .ok (.iconst 0, 1) := by decide +kernel
theorem dX4_rowsFor_3 : decode cX4_rowsFor 3 = .ok (.istore 4, 2) := by decide +kernel
theorem dX4_rowsFor_5 : decode cX4_rowsFor 5 = .ok (.iload 4, 2) := by decide +kernel
theorem dX4_rowsFor_7 : decode cX4_rowsFor 7 = .ok (.iload_n 1, 1) := by decide +kernel
theorem dX4_rowsFor_8 : decode cX4_rowsFor 8 = .ok (.if_icmp .ge 21, 3) := by decide +kernel
theorem dX4_rowsFor_11 : decode cX4_rowsFor 11 = .ok (.lload_n 2, 1) := by decide +kernel
theorem dX4_rowsFor_12 : decode cX4_rowsFor 12 = .ok (.lconst 1, 1) := by decide +kernel
theorem dX4_rowsFor_13 : decode cX4_rowsFor 13 = .ok (.iload 4, 2) := by decide +kernel
theorem dX4_rowsFor_15 : decode cX4_rowsFor 15 = .ok (.bipush 12, 2) := by decide +kernel
theorem dX4_rowsFor_17 : decode cX4_rowsFor 17 = .ok (.imul, 1) := by decide +kernel
theorem dX4_rowsFor_18 : decode cX4_rowsFor 18 = .ok (.iload_n 0, 1) := by decide +kernel
theorem dX4_rowsFor_19 : decode cX4_rowsFor 19 = .ok (.iadd, 1) := by decide +kernel
theorem dX4_rowsFor_20 : decode cX4_rowsFor 20 = .ok (.lshl, 1) := by decide +kernel
theorem dX4_rowsFor_21 : decode cX4_rowsFor 21 = .ok (.lor, 1) := by decide +kernel
theorem dX4_rowsFor_22 : decode cX4_rowsFor 22 = .ok (.lstore_n 2, 1) := by decide +kernel
theorem dX4_rowsFor_23 : decode cX4_rowsFor 23 = .ok (.iinc 4 1, 3) := by decide +kernel
theorem dX4_rowsFor_26 : decode cX4_rowsFor 26 = .ok (.goto (-21), 3) := by decide +kernel
theorem dX4_rowsFor_29 : decode cX4_rowsFor 29 = .ok (.lload_n 2, 1) := by decide +kernel
theorem dX4_rowsFor_30 : decode cX4_rowsFor 30 = .ok (.lreturn, 1) := by decide +kernel
set_option maxRecDepth 20000 in
theorem ggX4_greatest_X6_isSet : GoodIn wsX4_greatest wsX6_isSet := goodIn_r _ [3] (by decide +kernel) (by decide +kernel)
set_option maxRecDepth 20000 in
theorem gX4_greatest_X6_isSet_n9 : GoodIn wsX4_greatest (wsX6_isSet) := ggX4_greatest_X6_isSet
theorem dX4_greatest_0 : decode cX4_greatest 0 = .ok (.iconst 3, 1) := by decide +kernel
theorem dX4_greatest_1 : decode cX4_greatest 1 = .ok (.istore_n 3, 1) := by decide +kernel
theorem dX4_greatest_2 : decode cX4_greatest 2 = .ok (.iload_n 3, 1) := by decide +kernel
theorem dX4_greatest_3 : decode cX4_greatest 3 = .ok (.iconst 1, 1) := by decide +kernel
theorem dX4_greatest_4 : decode cX4_greatest 4 = .ok (.if_icmp .lt 26, 3) := by decide +kernel
theorem dX4_greatest_7 : decode cX4_greatest 7 = .ok (.lload_n 0, 1) := by decide +kernel
theorem dX4_greatest_8 : decode cX4_greatest 8 = .ok (.iload_n 3, 1) := by decide +kernel
theorem dX4_greatest_9 : decode cX4_greatest 9 = .ok (.iconst 1, 1) := by decide +kernel
theorem dX4_greatest_10 : decode cX4_greatest 10 = .ok (.isub, 1) := by decide +kernel
theorem dX4_greatest_11 : decode cX4_greatest 11 = .ok (.bipush 12, 2) := by decide +kernel
theorem dX4_greatest_13 : decode cX4_greatest 13 = .ok (.imul, 1) := by decide +kernel
theorem dX4_greatest_14 : decode cX4_greatest 14 = .ok (.iload_n 2, 1) := by decide +kernel
theorem dX4_greatest_15 : decode cX4_greatest 15 = .ok (.iadd, 1) := by decide +kernel
theorem dX4_greatest_16 : decode cX4_greatest 16 = .ok (.invokestatic 9, 3) := by decide +kernel
theorem dX4_greatest_19 : decode cX4_greatest 19 = .ok (.ifCond .eq 5, 3) := by decide +kernel
theorem dX4_greatest_22 : decode cX4_greatest 22 = .ok (.iload_n 3, 1) := by decide +kernel
theorem dX4_greatest_23 : decode cX4_greatest 23 = .ok (.ireturn, 1) := by decide +kernel
theorem dX4_greatest_24 : decode cX4_greatest 24 = .ok (.iinc 3 (-1), 3) := by decide +kernel
theorem dX4_greatest_27 : decode cX4_greatest 27 = .ok (.goto (-25), 3) := by decide +kernel
theorem dX4_greatest_30 : decode cX4_greatest 30 = .ok (.iconst 0, 1) := by decide +kernel
theorem dX4_greatest_31 : decode cX4_greatest 31 = .ok (.ireturn, 1) := by decide +kernel
theorem dX4_looser_0 : decode cX4_looser 0 = .ok (.lload_n 0, 1) := by decide +kernel
theorem dX4_looser_1 : decode cX4_looser 1 = .ok (.lload_n 2, 1) := by decide +kernel
theorem dX4_looser_2 : decode cX4_looser 2 = .ok (.ldc2_w 13, 3) := by decide +kernel
theorem dX4_looser_5 : decode cX4_looser 5 = .ok (.lxor, 1) := by decide +kernel
theorem dX4_looser_6 : decode cX4_looser 6 = .ok (.land, 1) := by decide +kernel
theorem dX4_looser_7 : decode cX4_looser 7 = .ok (.lconst 0, 1) := by decide +kernel
theorem dX4_looser_8 : decode cX4_looser 8 = .ok (.lcmp, 1) := by decide +kernel
theorem dX4_looser_9 : decode cX4_looser 9 = .ok (.ifCond .ne 7, 3) := by decide +kernel
theorem dX4_looser_12 : decode cX4_looser 12 = .ok (.iconst 1, 1) := by decide +kernel
theorem dX4_looser_13 : decode cX4_looser 13 = .ok (.goto 4, 3) := by decide +kernel
theorem dX4_looser_16 : decode cX4_looser 16 = .ok (.iconst 0, 1) := by decide +kernel
theorem dX4_looser_17 : decode cX4_looser 17 = .ok (.istore 4, 2) := by decide +kernel
theorem dX4_looser_19 : decode cX4_looser 19 = .ok (.lload_n 2, 1) := by decide +kernel
theorem dX4_looser_20 : decode cX4_looser 20 = .ok (.lload_n 0, 1) := by decide +kernel
theorem dX4_looser_21 : decode cX4_looser 21 = .ok (.ldc2_w 13, 3) := by decide +kernel
theorem dX4_looser_24 : decode cX4_looser 24 = .ok (.lxor, 1) := by decide +kernel
theorem dX4_looser_25 : decode cX4_looser 25 = .ok (.land, 1) := by decide +kernel
theorem dX4_looser_26 : decode cX4_looser 26 = .ok (.lconst 0, 1) := by decide +kernel
theorem dX4_looser_27 : decode cX4_looser 27 = .ok (.lcmp, 1) := by decide +kernel
theorem dX4_looser_28 : decode cX4_looser 28 = .ok (.ifCond .ne 7, 3) := by decide +kernel
theorem dX4_looser_31 : decode cX4_looser 31 = .ok (.iconst 2, 1) := by decide +kernel
theorem dX4_looser_32 : decode cX4_looser 32 = .ok (.goto 4, 3) := by decide +kernel
theorem dX4_looser_35 : decode cX4_looser 35 = .ok (.iconst 0, 1) := by decide +kernel
theorem dX4_looser_36 : decode cX4_looser 36 = .ok (.istore 5, 2) := by decide +kernel
theorem dX4_looser_38 : decode cX4_looser 38 = .ok (.iload 4, 2) := by decide +kernel
theorem dX4_looser_40 : decode cX4_looser 40 = .ok (.iload 5, 2) := by decide +kernel
theorem dX4_looser_42 : decode cX4_looser 42 = .ok (.iadd, 1) := by decide +kernel
theorem dX4_looser_43 : decode cX4_looser 43 = .ok (.ireturn, 1) := by decide +kernel
set_option maxRecDepth 20000 in
theorem ggX4_duties_X4_itemsIn : GoodIn wsX4_duties wsX4_itemsIn := goodIn_r _ [4] (by decide +kernel) (by decide +kernel)
set_option maxRecDepth 20000 in
theorem gX4_duties_X4_itemsIn : GoodIn wsX4_duties (va_wsS RX4 15 yX4_itemsIn wsX4_itemsIn) := goodIn_app (goodIn_of _ (by decide +kernel)) ggX4_duties_X4_itemsIn
theorem dX4_duties_0 : decode cX4_duties 0 = .ok (.lload_n 0, 1) := by decide +kernel
theorem dX4_duties_1 : decode cX4_duties 1 = .ok (.invokestatic 15, 3) := by decide +kernel
theorem dX4_duties_4 : decode cX4_duties 4 = .ok (.bipush 63, 2) := by decide +kernel
theorem dX4_duties_6 : decode cX4_duties 6 = .ok (.iand, 1) := by decide +kernel
theorem dX4_duties_7 : decode cX4_duties 7 = .ok (.ireturn, 1) := by decide +kernel
set_option maxRecDepth 20000 in
theorem ggX4_bars_X4_itemsIn : GoodIn wsX4_bars wsX4_itemsIn := goodIn_r _ [4] (by decide +kernel) (by decide +kernel)
set_option maxRecDepth 20000 in
theorem gX4_bars_X4_itemsIn : GoodIn wsX4_bars (va_wsS RX4 15 yX4_itemsIn wsX4_itemsIn) := goodIn_app (goodIn_of _ (by decide +kernel)) ggX4_bars_X4_itemsIn
theorem dX4_bars_0 : decode cX4_bars 0 = .ok (.lload_n 0, 1) := by decide +kernel
theorem dX4_bars_1 : decode cX4_bars 1 = .ok (.invokestatic 15, 3) := by decide +kernel
theorem dX4_bars_4 : decode cX4_bars 4 = .ok (.bipush 6, 2) := by decide +kernel
theorem dX4_bars_6 : decode cX4_bars 6 = .ok (.ishr, 1) := by decide +kernel
theorem dX4_bars_7 : decode cX4_bars 7 = .ok (.ireturn, 1) := by decide +kernel
set_option maxRecDepth 20000 in
theorem ggX4_meeting_X4_itemsIn : GoodIn wsX4_meeting wsX4_itemsIn := goodIn_r _ [4] (by decide +kernel) (by decide +kernel)
set_option maxRecDepth 20000 in
theorem gX4_meeting_X4_itemsIn : GoodIn wsX4_meeting (va_wsS RX4 15 yX4_itemsIn wsX4_itemsIn) := goodIn_app (goodIn_of _ (by decide +kernel)) ggX4_meeting_X4_itemsIn
theorem dX4_meeting_0 : decode cX4_meeting 0 = .ok (.lload_n 0, 1) := by decide +kernel
theorem dX4_meeting_1 : decode cX4_meeting 1 = .ok (.invokestatic 15, 3) := by decide +kernel
theorem dX4_meeting_4 : decode cX4_meeting 4 = .ok (.istore_n 2, 1) := by decide +kernel
theorem dX4_meeting_5 : decode cX4_meeting 5 = .ok (.iload_n 2, 1) := by decide +kernel
theorem dX4_meeting_6 : decode cX4_meeting 6 = .ok (.iload_n 2, 1) := by decide +kernel
theorem dX4_meeting_7 : decode cX4_meeting 7 = .ok (.bipush 6, 2) := by decide +kernel
theorem dX4_meeting_9 : decode cX4_meeting 9 = .ok (.ishr, 1) := by decide +kernel
theorem dX4_meeting_10 : decode cX4_meeting 10 = .ok (.iand, 1) := by decide +kernel
theorem dX4_meeting_11 : decode cX4_meeting 11 = .ok (.ireturn, 1) := by decide +kernel
theorem dX4_letThrough_0 : decode cX4_letThrough 0 = .ok (.iload_n 0, 1) := by decide +kernel
theorem dX4_letThrough_1 : decode cX4_letThrough 1 = .ok (.iconst (-1), 1) := by decide +kernel
theorem dX4_letThrough_2 : decode cX4_letThrough 2 = .ok (.if_icmp .ne 7, 3) := by decide +kernel
theorem dX4_letThrough_5 : decode cX4_letThrough 5 = .ok (.lconst 0, 1) := by decide +kernel
theorem dX4_letThrough_6 : decode cX4_letThrough 6 = .ok (.goto 15, 3) := by decide +kernel
theorem dX4_letThrough_9 : decode cX4_letThrough 9 = .ok (.ldc2_w 21, 3) := by decide +kernel
theorem dX4_letThrough_12 : decode cX4_letThrough 12 = .ok (.ldc2_w 13, 3) := by decide +kernel
theorem dX4_letThrough_15 : decode cX4_letThrough 15 = .ok (.iload_n 0, 1) := by decide +kernel
theorem dX4_letThrough_16 : decode cX4_letThrough 16 = .ok (.bipush 12, 2) := by decide +kernel
theorem dX4_letThrough_18 : decode cX4_letThrough 18 = .ok (.imul, 1) := by decide +kernel
theorem dX4_letThrough_19 : decode cX4_letThrough 19 = .ok (.lshl, 1) := by decide +kernel
theorem dX4_letThrough_20 : decode cX4_letThrough 20 = .ok (.land, 1) := by decide +kernel
theorem dX4_letThrough_21 : decode cX4_letThrough 21 = .ok (.lreturn, 1) := by decide +kernel
theorem dX4_itemsIn_0 : decode cX4_itemsIn 0 = .ok (.lload_n 0, 1) := by decide +kernel
theorem dX4_itemsIn_1 : decode cX4_itemsIn 1 = .ok (.lload_n 0, 1) := by decide +kernel
theorem dX4_itemsIn_2 : decode cX4_itemsIn 2 = .ok (.bipush 12, 2) := by decide +kernel
theorem dX4_itemsIn_4 : decode cX4_itemsIn 4 = .ok (.lshr, 1) := by decide +kernel
theorem dX4_itemsIn_5 : decode cX4_itemsIn 5 = .ok (.lor, 1) := by decide +kernel
theorem dX4_itemsIn_6 : decode cX4_itemsIn 6 = .ok (.lload_n 0, 1) := by decide +kernel
theorem dX4_itemsIn_7 : decode cX4_itemsIn 7 = .ok (.bipush 24, 2) := by decide +kernel
theorem dX4_itemsIn_9 : decode cX4_itemsIn 9 = .ok (.lshr, 1) := by decide +kernel
theorem dX4_itemsIn_10 : decode cX4_itemsIn 10 = .ok (.lor, 1) := by decide +kernel
theorem dX4_itemsIn_11 : decode cX4_itemsIn 11 = .ok (.l2i, 1) := by decide +kernel
theorem dX4_itemsIn_12 : decode cX4_itemsIn 12 = .ok (.sipush 4095, 3) := by decide +kernel
theorem dX4_itemsIn_15 : decode cX4_itemsIn 15 = .ok (.iand, 1) := by decide +kernel
theorem dX4_itemsIn_16 : decode cX4_itemsIn 16 = .ok (.ireturn, 1) := by decide +kernel
theorem dX5_init_0 : decode cX5_init 0 = .ok (.aload_n 0, 1) := by decide +kernel
theorem dX5_init_1 : decode cX5_init 1 = .ok (.invokespecial 3, 3) := by decide +kernel
theorem dX5_init_4 : decode cX5_init 4 = .ok (.aload_n 0, 1) := by decide +kernel
theorem dX5_init_5 : decode cX5_init 5 = .ok (.bipush 8, 2) := by decide +kernel
theorem dX5_init_7 : decode cX5_init 7 = .ok (.newarray .int, 2) := by decide +kernel
theorem dX5_init_9 : decode cX5_init 9 = .ok (.putfield 9, 3) := by decide +kernel
theorem dX5_init_12 : decode cX5_init 12 = .ok (.aload_n 0, 1) := by decide +kernel
theorem dX5_init_13 : decode cX5_init 13 = .ok (.aload_n 1, 1) := by decide +kernel
theorem dX5_init_14 : decode cX5_init 14 = .ok (.putfield 15, 3) := by decide +kernel
theorem dX5_init_17 : decode cX5_init 17 = .ok (.return_, 1) := by decide +kernel
set_option maxRecDepth 20000 in
theorem ggX5_partAt_X3_reachHeld : GoodIn wsX5_partAt wsX3_reachHeld := goodIn_r _ [7, 8, 9, 10, 11, 12, 13, 14, 15, 42, 43, 44, 45, 46, 47, 48, 49] (by decide +kernel) (by decide +kernel)
set_option maxRecDepth 20000 in
theorem gX5_partAt_X3_reachHeld : GoodIn wsX5_partAt (wsV RX5 19 RX3 yX3_reachHeld wsX3_reachHeld) := goodIn_app (goodIn_of _ (by decide +kernel)) ggX5_partAt_X3_reachHeld
set_option maxRecDepth 20000 in
theorem ggX5_partAt_X5_measure : GoodIn wsX5_partAt wsX5_measure := goodIn_r _ [20, 1, 2, 21, 22, 23, 6, 24, 25, 13, 14, 15, 26, 10, 11, 12, 27, 28, 29, 19, 30, 31, 32, 33, 34, 35, 36, 37, 38, 39, 40, 41, 42, 43, 44, 45, 46, 47, 48, 49] (by decide +kernel) (by decide +kernel)
set_option maxRecDepth 20000 in
theorem gX5_partAt_X5_measure : GoodIn wsX5_partAt (wsV RX5 25 RX5 yX5_measure wsX5_measure) := goodIn_app (goodIn_of _ (by decide +kernel)) ggX5_partAt_X5_measure
set_option maxRecDepth 20000 in
theorem ggX5_partAt_X5_nearer : GoodIn wsX5_partAt wsX5_nearer := goodIn_r _ [30, 2, 1, 31, 32, 33, 6, 34, 35, 36, 37, 38, 39, 40, 41, 42, 43, 44, 45, 46, 47, 48, 49] (by decide +kernel) (by decide +kernel)
set_option maxRecDepth 20000 in
theorem gX5_partAt_X5_nearer : GoodIn wsX5_partAt (wsV RX5 29 RX5 yX5_nearer wsX5_nearer) := goodIn_app (goodIn_of _ (by decide +kernel)) ggX5_partAt_X5_nearer
theorem dX5_partAt_0 : decode cX5_partAt 0 = .ok (.aload_n 0, 1) := by decide +kernel
theorem dX5_partAt_1 : decode cX5_partAt 1 = .ok (.getfield 15, 3) := by decide +kernel
theorem dX5_partAt_4 : decode cX5_partAt 4 = .ok (.iload_n 1, 1) := by decide +kernel
theorem dX5_partAt_5 : decode cX5_partAt 5 = .ok (.iload_n 2, 1) := by decide +kernel
theorem dX5_partAt_6 : decode cX5_partAt 6 = .ok (.invokevirtual 19, 3) := by decide +kernel
theorem dX5_partAt_9 : decode cX5_partAt 9 = .ok (.istore 4, 2) := by decide +kernel
theorem dX5_partAt_11 : decode cX5_partAt 11 = .ok (.iload 4, 2) := by decide +kernel
theorem dX5_partAt_13 : decode cX5_partAt 13 = .ok (.ifCond .eq 7, 3) := by decide +kernel
theorem dX5_partAt_16 : decode cX5_partAt 16 = .ok (.iload_n 3, 1) := by decide +kernel
theorem dX5_partAt_17 : decode cX5_partAt 17 = .ok (.ifCond .ge 5, 3) := by decide +kernel
theorem dX5_partAt_20 : decode cX5_partAt 20 = .ok (.iconst (-1), 1) := by decide +kernel
theorem dX5_partAt_21 : decode cX5_partAt 21 = .ok (.ireturn, 1) := by decide +kernel
theorem dX5_partAt_22 : decode cX5_partAt 22 = .ok (.aload_n 0, 1) := by decide +kernel
theorem dX5_partAt_23 : decode cX5_partAt 23 = .ok (.iload_n 2, 1) := by decide +kernel
theorem dX5_partAt_24 : decode cX5_partAt 24 = .ok (.iload 4, 2) := by decide +kernel
theorem dX5_partAt_26 : decode cX5_partAt 26 = .ok (.invokevirtual 25, 3) := by decide +kernel
theorem dX5_partAt_29 : decode cX5_partAt 29 = .ok (.iload_n 3, 1) := by decide +kernel
theorem dX5_partAt_30 : decode cX5_partAt 30 = .ok (.aload_n 0, 1) := by decide +kernel
theorem dX5_partAt_31 : decode cX5_partAt 31 = .ok (.getfield 9, 3) := by decide +kernel
theorem dX5_partAt_34 : decode cX5_partAt 34 = .ok (.iload_n 1, 1) := by decide +kernel
theorem dX5_partAt_35 : decode cX5_partAt 35 = .ok (.iaload, 1) := by decide +kernel
theorem dX5_partAt_36 : decode cX5_partAt 36 = .ok (.if_icmp .le 5, 3) := by decide +kernel
theorem dX5_partAt_39 : decode cX5_partAt 39 = .ok (.iconst (-1), 1) := by decide +kernel
theorem dX5_partAt_40 : decode cX5_partAt 40 = .ok (.ireturn, 1) := by decide +kernel
theorem dX5_partAt_41 : decode cX5_partAt 41 = .ok (.iload_n 1, 1) := by decide +kernel
theorem dX5_partAt_42 : decode cX5_partAt 42 = .ok (.istore 5, 2) := by decide +kernel
theorem dX5_partAt_44 : decode cX5_partAt 44 = .ok (.iconst 0, 1) := by decide +kernel
theorem dX5_partAt_45 : decode cX5_partAt 45 = .ok (.istore 6, 2) := by decide +kernel
theorem dX5_partAt_47 : decode cX5_partAt 47 = .ok (.iload 5, 2) := by decide +kernel
theorem dX5_partAt_49 : decode cX5_partAt 49 = .ok (.iconst (-1), 1) := by decide +kernel
theorem dX5_partAt_50 : decode cX5_partAt 50 = .ok (.if_icmp .eq 34, 3) := by decide +kernel
theorem dX5_partAt_53 : decode cX5_partAt 53 = .ok (.iload 6, 2) := by decide +kernel
theorem dX5_partAt_55 : decode cX5_partAt 55 = .ok (.iload_n 3, 1) := by decide +kernel
theorem dX5_partAt_56 : decode cX5_partAt 56 = .ok (.if_icmp .ge 28, 3) := by decide +kernel
theorem dX5_partAt_59 : decode cX5_partAt 59 = .ok (.aload_n 0, 1) := by decide +kernel
theorem dX5_partAt_60 : decode cX5_partAt 60 = .ok (.iload 5, 2) := by decide +kernel
theorem dX5_partAt_62 : decode cX5_partAt 62 = .ok (.aload_n 0, 1) := by decide +kernel
theorem dX5_partAt_63 : decode cX5_partAt 63 = .ok (.getfield 9, 3) := by decide +kernel
theorem dX5_partAt_66 : decode cX5_partAt 66 = .ok (.iload 5, 2) := by decide +kernel
theorem dX5_partAt_68 : decode cX5_partAt 68 = .ok (.iaload, 1) := by decide +kernel
theorem dX5_partAt_69 : decode cX5_partAt 69 = .ok (.iconst 1, 1) := by decide +kernel
theorem dX5_partAt_70 : decode cX5_partAt 70 = .ok (.isub, 1) := by decide +kernel
theorem dX5_partAt_71 : decode cX5_partAt 71 = .ok (.iload 4, 2) := by decide +kernel
theorem dX5_partAt_73 : decode cX5_partAt 73 = .ok (.invokevirtual 29, 3) := by decide +kernel
theorem dX5_partAt_76 : decode cX5_partAt 76 = .ok (.istore 5, 2) := by decide +kernel
theorem dX5_partAt_78 : decode cX5_partAt 78 = .ok (.iinc 6 1, 3) := by decide +kernel
theorem dX5_partAt_81 : decode cX5_partAt 81 = .ok (.goto (-34), 3) := by decide +kernel
theorem dX5_partAt_84 : decode cX5_partAt 84 = .ok (.iload 5, 2) := by decide +kernel
theorem dX5_partAt_86 : decode cX5_partAt 86 = .ok (.ireturn, 1) := by decide +kernel
set_option maxRecDepth 20000 in
theorem ggX5_measure_X3_has : GoodIn wsX5_measure wsX3_has := goodIn_r _ [7, 8, 9, 10, 11, 32, 33, 34, 35, 36, 37, 38, 39] (by decide +kernel) (by decide +kernel)
set_option maxRecDepth 20000 in
theorem gX5_measure_X3_has : GoodIn wsX5_measure (wsV RX5 33 RX3 yX3_has wsX3_has) := goodIn_app (goodIn_of _ (by decide +kernel)) ggX5_measure_X3_has
set_option maxRecDepth 20000 in
theorem ggX5_measure_X4_greatest : GoodIn wsX5_measure wsX4_greatest := goodIn_r _ [15, 9, 10, 11] (by decide +kernel) (by decide +kernel)
set_option maxRecDepth 20000 in
theorem gX5_measure_X4_greatest : GoodIn wsX5_measure (va_wsS RX5 41 yX4_greatest wsX4_greatest) := goodIn_app (goodIn_of _ (by decide +kernel)) ggX5_measure_X4_greatest
set_option maxRecDepth 20000 in
theorem ggX5_measure_X5_nearer : GoodIn wsX5_measure wsX5_nearer := goodIn_r _ [20, 2, 1, 21, 22, 23, 6, 24, 25, 26, 27, 28, 29, 30, 31, 32, 33, 34, 35, 36, 37, 38, 39] (by decide +kernel) (by decide +kernel)
set_option maxRecDepth 20000 in
theorem gX5_measure_X5_nearer : GoodIn wsX5_measure (wsV RX5 29 RX5 yX5_nearer wsX5_nearer) := goodIn_app (goodIn_of _ (by decide +kernel)) ggX5_measure_X5_nearer
theorem dX5_measure_0 : decode cX5_measure 0 = .ok (.iconst 0, 1) := by decide +kernel
theorem dX5_measure_1 : decode cX5_measure 1 = .ok (.istore_n 3, 1) := by decide +kernel
theorem dX5_measure_2 : decode cX5_measure 2 = .ok (.iload_n 3, 1) := by decide +kernel
theorem dX5_measure_3 : decode cX5_measure 3 = .ok (.bipush 8, 2) := by decide +kernel
theorem dX5_measure_5 : decode cX5_measure 5 = .ok (.if_icmp .ge 60, 3) := by decide +kernel
theorem dX5_measure_8 : decode cX5_measure 8 = .ok (.aload_n 0, 1) := by decide +kernel
theorem dX5_measure_9 : decode cX5_measure 9 = .ok (.getfield 15, 3) := by decide +kernel
theorem dX5_measure_12 : decode cX5_measure 12 = .ok (.iload_n 3, 1) := by decide +kernel
theorem dX5_measure_13 : decode cX5_measure 13 = .ok (.invokevirtual 33, 3) := by decide +kernel
theorem dX5_measure_16 : decode cX5_measure 16 = .ok (.ifCond .eq 24, 3) := by decide +kernel
theorem dX5_measure_19 : decode cX5_measure 19 = .ok (.aload_n 0, 1) := by decide +kernel
theorem dX5_measure_20 : decode cX5_measure 20 = .ok (.getfield 15, 3) := by decide +kernel
theorem dX5_measure_23 : decode cX5_measure 23 = .ok (.getfield 37, 3) := by decide +kernel
theorem dX5_measure_26 : decode cX5_measure 26 = .ok (.iload_n 3, 1) := by decide +kernel
theorem dX5_measure_27 : decode cX5_measure 27 = .ok (.laload, 1) := by decide +kernel
theorem dX5_measure_28 : decode cX5_measure 28 = .ok (.iload_n 1, 1) := by decide +kernel
theorem dX5_measure_29 : decode cX5_measure 29 = .ok (.invokestatic 41, 3) := by decide +kernel
theorem dX5_measure_32 : decode cX5_measure 32 = .ok (.iload_n 2, 1) := by decide +kernel
theorem dX5_measure_33 : decode cX5_measure 33 = .ok (.if_icmp .ne 7, 3) := by decide +kernel
theorem dX5_measure_36 : decode cX5_measure 36 = .ok (.iconst 1, 1) := by decide +kernel
theorem dX5_measure_37 : decode cX5_measure 37 = .ok (.goto 4, 3) := by decide +kernel
theorem dX5_measure_40 : decode cX5_measure 40 = .ok (.iconst 0, 1) := by decide +kernel
theorem dX5_measure_41 : decode cX5_measure 41 = .ok (.istore 4, 2) := by decide +kernel
theorem dX5_measure_43 : decode cX5_measure 43 = .ok (.aload_n 0, 1) := by decide +kernel
theorem dX5_measure_44 : decode cX5_measure 44 = .ok (.getfield 9, 3) := by decide +kernel
theorem dX5_measure_47 : decode cX5_measure 47 = .ok (.iload_n 3, 1) := by decide +kernel
theorem dX5_measure_48 : decode cX5_measure 48 = .ok (.iload 4, 2) := by decide +kernel
theorem dX5_measure_50 : decode cX5_measure 50 = .ok (.ifCond .eq 7, 3) := by decide +kernel
theorem dX5_measure_53 : decode cX5_measure 53 = .ok (.iconst 0, 1) := by decide +kernel
theorem dX5_measure_54 : decode cX5_measure 54 = .ok (.goto 4, 3) := by decide +kernel
theorem dX5_measure_57 : decode cX5_measure 57 = .ok (.iconst (-1), 1) := by decide +kernel
theorem dX5_measure_58 : decode cX5_measure 58 = .ok (.iastore, 1) := by decide +kernel
theorem dX5_measure_59 : decode cX5_measure 59 = .ok (.iinc 3 1, 3) := by decide +kernel
theorem dX5_measure_62 : decode cX5_measure 62 = .ok (.goto (-60), 3) := by decide +kernel
theorem dX5_measure_65 : decode cX5_measure 65 = .ok (.iconst 1, 1) := by decide +kernel
theorem dX5_measure_66 : decode cX5_measure 66 = .ok (.istore_n 3, 1) := by decide +kernel
theorem dX5_measure_67 : decode cX5_measure 67 = .ok (.iload_n 3, 1) := by decide +kernel
theorem dX5_measure_68 : decode cX5_measure 68 = .ok (.bipush 8, 2) := by decide +kernel
theorem dX5_measure_70 : decode cX5_measure 70 = .ok (.if_icmp .ge 58, 3) := by decide +kernel
theorem dX5_measure_73 : decode cX5_measure 73 = .ok (.iconst 0, 1) := by decide +kernel
theorem dX5_measure_74 : decode cX5_measure 74 = .ok (.istore 4, 2) := by decide +kernel
theorem dX5_measure_76 : decode cX5_measure 76 = .ok (.iload 4, 2) := by decide +kernel
theorem dX5_measure_78 : decode cX5_measure 78 = .ok (.bipush 8, 2) := by decide +kernel
theorem dX5_measure_80 : decode cX5_measure 80 = .ok (.if_icmp .ge 42, 3) := by decide +kernel
theorem dX5_measure_83 : decode cX5_measure 83 = .ok (.aload_n 0, 1) := by decide +kernel
theorem dX5_measure_84 : decode cX5_measure 84 = .ok (.getfield 9, 3) := by decide +kernel
theorem dX5_measure_87 : decode cX5_measure 87 = .ok (.iload 4, 2) := by decide +kernel
theorem dX5_measure_89 : decode cX5_measure 89 = .ok (.iaload, 1) := by decide +kernel
theorem dX5_measure_90 : decode cX5_measure 90 = .ok (.iconst (-1), 1) := by decide +kernel
theorem dX5_measure_91 : decode cX5_measure 91 = .ok (.if_icmp .ne 25, 3) := by decide +kernel
theorem dX5_measure_94 : decode cX5_measure 94 = .ok (.aload_n 0, 1) := by decide +kernel
theorem dX5_measure_95 : decode cX5_measure 95 = .ok (.iload 4, 2) := by decide +kernel
theorem dX5_measure_97 : decode cX5_measure 97 = .ok (.iload_n 3, 1) := by decide +kernel
theorem dX5_measure_98 : decode cX5_measure 98 = .ok (.iconst 1, 1) := by decide +kernel
theorem dX5_measure_99 : decode cX5_measure 99 = .ok (.isub, 1) := by decide +kernel
theorem dX5_measure_100 : decode cX5_measure 100 = .ok (.iload_n 2, 1) := by decide +kernel
theorem dX5_measure_101 : decode cX5_measure 101 = .ok (.invokevirtual 29, 3) := by decide +kernel
theorem dX5_measure_104 : decode cX5_measure 104 = .ok (.iconst (-1), 1) := by decide +kernel
theorem dX5_measure_105 : decode cX5_measure 105 = .ok (.if_icmp .eq 11, 3) := by decide +kernel
theorem dX5_measure_108 : decode cX5_measure 108 = .ok (.aload_n 0, 1) := by decide +kernel
theorem dX5_measure_109 : decode cX5_measure 109 = .ok (.getfield 9, 3) := by decide +kernel
theorem dX5_measure_112 : decode cX5_measure 112 = .ok (.iload 4, 2) := by decide +kernel
theorem dX5_measure_114 : decode cX5_measure 114 = .ok (.iload_n 3, 1) := by decide +kernel
theorem dX5_measure_115 : decode cX5_measure 115 = .ok (.iastore, 1) := by decide +kernel
theorem dX5_measure_116 : decode cX5_measure 116 = .ok (.iinc 4 1, 3) := by decide +kernel
theorem dX5_measure_119 : decode cX5_measure 119 = .ok (.goto (-43), 3) := by decide +kernel
theorem dX5_measure_122 : decode cX5_measure 122 = .ok (.iinc 3 1, 3) := by decide +kernel
theorem dX5_measure_125 : decode cX5_measure 125 = .ok (.goto (-58), 3) := by decide +kernel
theorem dX5_measure_128 : decode cX5_measure 128 = .ok (.return_, 1) := by decide +kernel
set_option maxRecDepth 20000 in
theorem ggX5_nearer_X3_lets : GoodIn wsX5_nearer wsX3_lets := goodIn_r _ [7, 8, 9, 10, 6, 11, 12, 15, 16, 17, 18, 19, 20, 21, 22] (by decide +kernel) (by decide +kernel)
set_option maxRecDepth 20000 in
theorem gX5_nearer_X3_lets : GoodIn wsX5_nearer (wsV RX5 47 RX3 yX3_lets wsX3_lets) := goodIn_app (goodIn_of _ (by decide +kernel)) ggX5_nearer_X3_lets
theorem dX5_nearer_0 : decode cX5_nearer 0 = .ok (.iconst 0, 1) := by decide +kernel
theorem dX5_nearer_1 : decode cX5_nearer 1 = .ok (.istore 4, 2) := by decide +kernel
theorem dX5_nearer_3 : decode cX5_nearer 3 = .ok (.iload 4, 2) := by decide +kernel
theorem dX5_nearer_5 : decode cX5_nearer 5 = .ok (.bipush 8, 2) := by decide +kernel
theorem dX5_nearer_7 : decode cX5_nearer 7 = .ok (.if_icmp .ge 37, 3) := by decide +kernel
theorem dX5_nearer_10 : decode cX5_nearer 10 = .ok (.aload_n 0, 1) := by decide +kernel
theorem dX5_nearer_11 : decode cX5_nearer 11 = .ok (.getfield 9, 3) := by decide +kernel
theorem dX5_nearer_14 : decode cX5_nearer 14 = .ok (.iload 4, 2) := by decide +kernel
theorem dX5_nearer_16 : decode cX5_nearer 16 = .ok (.iaload, 1) := by decide +kernel
theorem dX5_nearer_17 : decode cX5_nearer 17 = .ok (.iload_n 2, 1) := by decide +kernel
theorem dX5_nearer_18 : decode cX5_nearer 18 = .ok (.if_icmp .ne 20, 3) := by decide +kernel
theorem dX5_nearer_21 : decode cX5_nearer 21 = .ok (.aload_n 0, 1) := by decide +kernel
theorem dX5_nearer_22 : decode cX5_nearer 22 = .ok (.getfield 15, 3) := by decide +kernel
theorem dX5_nearer_25 : decode cX5_nearer 25 = .ok (.iload_n 1, 1) := by decide +kernel
theorem dX5_nearer_26 : decode cX5_nearer 26 = .ok (.iload 4, 2) := by decide +kernel
theorem dX5_nearer_28 : decode cX5_nearer 28 = .ok (.iload_n 3, 1) := by decide +kernel
theorem dX5_nearer_29 : decode cX5_nearer 29 = .ok (.invokevirtual 47, 3) := by decide +kernel
theorem dX5_nearer_32 : decode cX5_nearer 32 = .ok (.ifCond .eq 6, 3) := by decide +kernel
theorem dX5_nearer_35 : decode cX5_nearer 35 = .ok (.iload 4, 2) := by decide +kernel
theorem dX5_nearer_37 : decode cX5_nearer 37 = .ok (.ireturn, 1) := by decide +kernel
theorem dX5_nearer_38 : decode cX5_nearer 38 = .ok (.iinc 4 1, 3) := by decide +kernel
theorem dX5_nearer_41 : decode cX5_nearer 41 = .ok (.goto (-38), 3) := by decide +kernel
theorem dX5_nearer_44 : decode cX5_nearer 44 = .ok (.iconst (-1), 1) := by decide +kernel
theorem dX5_nearer_45 : decode cX5_nearer 45 = .ok (.ireturn, 1) := by decide +kernel
set_option maxRecDepth 20000 in
theorem ggX6_init_X2_init : GoodIn wsX6_init wsX2_init := goodIn_r _ [25, 26, 2, 3, 27, 28, 29, 66, 67] (by decide +kernel) (by decide +kernel)
set_option maxRecDepth 20000 in
theorem gX6_init_X2_init_n11 : GoodIn wsX6_init (wsX2_init) := ggX6_init_X2_init
set_option maxRecDepth 20000 in
theorem ggX6_init_X0_init : GoodIn wsX6_init wsX0_init := goodIn_r _ [31, 32, 2, 3, 33, 34, 35, 73, 74] (by decide +kernel) (by decide +kernel)
set_option maxRecDepth 20000 in
theorem gX6_init_X0_init_n18 : GoodIn wsX6_init (wsX0_init) := ggX6_init_X0_init
set_option maxRecDepth 20000 in
theorem ggX6_init_X3_init : GoodIn wsX6_init wsX3_init := goodIn_r _ [38, 39, 2, 3, 27, 40, 33, 41, 42, 43, 44, 45, 46, 47, 48, 49, 50, 51, 75, 76, 77, 78, 79, 80, 81, 82] (by decide +kernel) (by decide +kernel)
set_option maxRecDepth 20000 in
theorem gX6_init_X3_init : GoodIn wsX6_init (wsX3_init) := ggX6_init_X3_init
set_option maxRecDepth 20000 in
theorem ggX6_init_X5_init : GoodIn wsX6_init wsX5_init := goodIn_r _ [54, 55, 2, 3, 27, 56, 57, 83, 84] (by decide +kernel) (by decide +kernel)
set_option maxRecDepth 20000 in
theorem gX6_init_X5_init : GoodIn wsX6_init (wsX5_init) := ggX6_init_X5_init
set_option maxRecDepth 20000 in
theorem ggX6_init_X1_init : GoodIn wsX6_init wsX1_init := goodIn_r _ [60, 61, 2, 3, 33, 62, 63, 64, 65, 85, 86, 87, 88] (by decide +kernel) (by decide +kernel)
set_option maxRecDepth 20000 in
theorem gX6_init_X1_init : GoodIn wsX6_init (wsX1_init) := ggX6_init_X1_init
theorem dX6_init_0 : decode cX6_init 0 = .ok (.aload_n 0, 1) := by decide +kernel
theorem dX6_init_1 : decode cX6_init 1 = .ok (.invokespecial 3, 3) := by decide +kernel
theorem dX6_init_4 : decode cX6_init 4 = .ok (.aload_n 0, 1) := by decide +kernel
theorem dX6_init_5 : decode cX6_init 5 = .ok (.new 9, 3) := by decide +kernel
theorem dX6_init_8 : decode cX6_init 8 = .ok (.dup, 1) := by decide +kernel
theorem dX6_init_9 : decode cX6_init 9 = .ok (.invokespecial 11, 3) := by decide +kernel
theorem dX6_init_12 : decode cX6_init 12 = .ok (.putfield 12, 3) := by decide +kernel
theorem dX6_init_15 : decode cX6_init 15 = .ok (.aload_n 0, 1) := by decide +kernel
theorem dX6_init_16 : decode cX6_init 16 = .ok (.new 16, 3) := by decide +kernel
theorem dX6_init_19 : decode cX6_init 19 = .ok (.dup, 1) := by decide +kernel
theorem dX6_init_20 : decode cX6_init 20 = .ok (.invokespecial 18, 3) := by decide +kernel
theorem dX6_init_23 : decode cX6_init 23 = .ok (.putfield 19, 3) := by decide +kernel
theorem dX6_init_26 : decode cX6_init 26 = .ok (.aload_n 0, 1) := by decide +kernel
theorem dX6_init_27 : decode cX6_init 27 = .ok (.new 23, 3) := by decide +kernel
theorem dX6_init_30 : decode cX6_init 30 = .ok (.dup, 1) := by decide +kernel
theorem dX6_init_31 : decode cX6_init 31 = .ok (.invokespecial 25, 3) := by decide +kernel
theorem dX6_init_34 : decode cX6_init 34 = .ok (.putfield 26, 3) := by decide +kernel
theorem dX6_init_37 : decode cX6_init 37 = .ok (.aload_n 0, 1) := by decide +kernel
theorem dX6_init_38 : decode cX6_init 38 = .ok (.new 30, 3) := by decide +kernel
theorem dX6_init_41 : decode cX6_init 41 = .ok (.dup, 1) := by decide +kernel
theorem dX6_init_42 : decode cX6_init 42 = .ok (.aload_n 0, 1) := by decide +kernel
theorem dX6_init_43 : decode cX6_init 43 = .ok (.getfield 26, 3) := by decide +kernel
theorem dX6_init_46 : decode cX6_init 46 = .ok (.invokespecial 32, 3) := by decide +kernel
theorem dX6_init_49 : decode cX6_init 49 = .ok (.putfield 35, 3) := by decide +kernel
theorem dX6_init_52 : decode cX6_init 52 = .ok (.aload_n 0, 1) := by decide +kernel
theorem dX6_init_53 : decode cX6_init 53 = .ok (.new 39, 3) := by decide +kernel
theorem dX6_init_56 : decode cX6_init 56 = .ok (.dup, 1) := by decide +kernel
theorem dX6_init_57 : decode cX6_init 57 = .ok (.aload_n 0, 1) := by decide +kernel
theorem dX6_init_58 : decode cX6_init 58 = .ok (.getfield 26, 3) := by decide +kernel
theorem dX6_init_61 : decode cX6_init 61 = .ok (.invokespecial 41, 3) := by decide +kernel
theorem dX6_init_64 : decode cX6_init 64 = .ok (.putfield 42, 3) := by decide +kernel
theorem dX6_init_67 : decode cX6_init 67 = .ok (.return_, 1) := by decide +kernel
set_option maxRecDepth 20000 in
theorem ggX6_letter_X2_write : GoodIn wsX6_letter wsX2_write := goodIn_r _ [6, 7, 8, 14, 15] (by decide +kernel) (by decide +kernel)
set_option maxRecDepth 20000 in
theorem gX6_letter_X2_write : GoodIn wsX6_letter (wsV RX6 50 RX2 yX2_write wsX2_write) := goodIn_app (goodIn_of _ (by decide +kernel)) ggX6_letter_X2_write
theorem dX6_letter_0 : decode cX6_letter 0 = .ok (.iload_n 1, 1) := by decide +kernel
theorem dX6_letter_1 : decode cX6_letter 1 = .ok (.bipush 32, 2) := by decide +kernel
theorem dX6_letter_3 : decode cX6_letter 3 = .ok (.if_icmp .lt 9, 3) := by decide +kernel
theorem dX6_letter_6 : decode cX6_letter 6 = .ok (.iload_n 1, 1) := by decide +kernel
theorem dX6_letter_7 : decode cX6_letter 7 = .ok (.bipush 126, 2) := by decide +kernel
theorem dX6_letter_9 : decode cX6_letter 9 = .ok (.if_icmp .le 7, 3) := by decide +kernel
theorem dX6_letter_12 : decode cX6_letter 12 = .ok (.sipush (-1002), 3) := by decide +kernel
theorem dX6_letter_15 : decode cX6_letter 15 = .ok (.ireturn, 1) := by decide +kernel
theorem dX6_letter_16 : decode cX6_letter 16 = .ok (.aload_n 0, 1) := by decide +kernel
theorem dX6_letter_17 : decode cX6_letter 17 = .ok (.getfield 12, 3) := by decide +kernel
theorem dX6_letter_20 : decode cX6_letter 20 = .ok (.getfield 46, 3) := by decide +kernel
theorem dX6_letter_23 : decode cX6_letter 23 = .ok (.bipush 24, 2) := by decide +kernel
theorem dX6_letter_25 : decode cX6_letter 25 = .ok (.if_icmp .ge 14, 3) := by decide +kernel
theorem dX6_letter_28 : decode cX6_letter 28 = .ok (.aload_n 0, 1) := by decide +kernel
theorem dX6_letter_29 : decode cX6_letter 29 = .ok (.getfield 12, 3) := by decide +kernel
theorem dX6_letter_32 : decode cX6_letter 32 = .ok (.iload_n 1, 1) := by decide +kernel
theorem dX6_letter_33 : decode cX6_letter 33 = .ok (.invokevirtual 50, 3) := by decide +kernel
theorem dX6_letter_36 : decode cX6_letter 36 = .ok (.goto 6, 3) := by decide +kernel
theorem dX6_letter_39 : decode cX6_letter 39 = .ok (.sipush (-1004), 3) := by decide +kernel
theorem dX6_letter_42 : decode cX6_letter 42 = .ok (.ireturn, 1) := by decide +kernel
set_option maxRecDepth 20000 in
theorem ggX6_blank_X2_wipe : GoodIn wsX6_blank wsX2_wipe := goodIn_r _ [6, 7, 13, 14] (by decide +kernel) (by decide +kernel)
set_option maxRecDepth 20000 in
theorem gX6_blank_X2_wipe : GoodIn wsX6_blank (wsV RX6 54 RX2 yX2_wipe wsX2_wipe) := goodIn_app (goodIn_of _ (by decide +kernel)) ggX6_blank_X2_wipe
theorem dX6_blank_0 : decode cX6_blank 0 = .ok (.aload_n 0, 1) := by decide +kernel
theorem dX6_blank_1 : decode cX6_blank 1 = .ok (.getfield 12, 3) := by decide +kernel
theorem dX6_blank_4 : decode cX6_blank 4 = .ok (.invokevirtual 54, 3) := by decide +kernel
theorem dX6_blank_7 : decode cX6_blank 7 = .ok (.ireturn, 1) := by decide +kernel
set_option maxRecDepth 20000 in
theorem ggX6_fault_X2_firstFault : GoodIn wsX6_fault wsX2_firstFault := goodIn_r _ [6, 7, 8, 9, 10, 5, 11, 12, 13, 14, 15, 16, 17, 23, 24] (by decide +kernel) (by decide +kernel)
set_option maxRecDepth 20000 in
theorem gX6_fault_X2_firstFault : GoodIn wsX6_fault (wsV RX6 58 RX2 yX2_firstFault wsX2_firstFault) := goodIn_app (goodIn_of _ (by decide +kernel)) ggX6_fault_X2_firstFault
theorem dX6_fault_0 : decode cX6_fault 0 = .ok (.aload_n 0, 1) := by decide +kernel
theorem dX6_fault_1 : decode cX6_fault 1 = .ok (.getfield 12, 3) := by decide +kernel
theorem dX6_fault_4 : decode cX6_fault 4 = .ok (.invokevirtual 58, 3) := by decide +kernel
theorem dX6_fault_7 : decode cX6_fault 7 = .ok (.ireturn, 1) := by decide +kernel
set_option maxRecDepth 20000 in
theorem ggX6_terms_X2_firstFault : GoodIn wsX6_terms wsX2_firstFault := goodIn_r _ [7, 8, 9, 10, 11, 6, 12, 13, 14, 15, 16, 17, 18, 47, 48] (by decide +kernel) (by decide +kernel)
set_option maxRecDepth 20000 in
theorem gX6_terms_X2_firstFault : GoodIn wsX6_terms (wsV RX6 58 RX2 yX2_firstFault wsX2_firstFault) := goodIn_app (goodIn_of _ (by decide +kernel)) ggX6_terms_X2_firstFault
set_option maxRecDepth 20000 in
theorem ggX6_terms_X2_meaning : GoodIn wsX6_terms wsX2_meaning := goodIn_r _ [22, 8, 9, 10, 11, 6, 12, 13, 14, 15, 23, 24, 25, 26, 47, 48] (by decide +kernel) (by decide +kernel)
set_option maxRecDepth 20000 in
theorem gX6_terms_X2_meaning : GoodIn wsX6_terms (wsV RX6 61 RX2 yX2_meaning wsX2_meaning) := goodIn_app (goodIn_of _ (by decide +kernel)) ggX6_terms_X2_meaning
set_option maxRecDepth 20000 in
theorem ggX6_terms_X0_numberFor : GoodIn wsX6_terms wsX0_numberFor := goodIn_r _ [31, 32, 33, 34, 35, 36, 30, 37, 49, 50] (by decide +kernel) (by decide +kernel)
set_option maxRecDepth 20000 in
theorem gX6_terms_X0_numberFor : GoodIn wsX6_terms (wsV RX6 65 RX0 yX0_numberFor wsX0_numberFor) := goodIn_app (goodIn_of _ (by decide +kernel)) ggX6_terms_X0_numberFor
set_option maxRecDepth 20000 in
theorem ggX6_terms_X2_wipe : GoodIn wsX6_terms wsX2_wipe := goodIn_r _ [41, 8, 47, 48] (by decide +kernel) (by decide +kernel)
set_option maxRecDepth 20000 in
theorem gX6_terms_X2_wipe : GoodIn wsX6_terms (wsV RX6 54 RX2 yX2_wipe wsX2_wipe) := goodIn_app (goodIn_of _ (by decide +kernel)) ggX6_terms_X2_wipe
theorem dX6_terms_0 : decode cX6_terms 0 = .ok (.aload_n 0, 1) := by decide +kernel
theorem dX6_terms_1 : decode cX6_terms 1 = .ok (.getfield 12, 3) := by decide +kernel
theorem dX6_terms_4 : decode cX6_terms 4 = .ok (.getfield 46, 3) := by decide +kernel
theorem dX6_terms_7 : decode cX6_terms 7 = .ok (.ifCond .eq 20, 3) := by decide +kernel
theorem dX6_terms_10 : decode cX6_terms 10 = .ok (.aload_n 0, 1) := by decide +kernel
theorem dX6_terms_11 : decode cX6_terms 11 = .ok (.getfield 12, 3) := by decide +kernel
theorem dX6_terms_14 : decode cX6_terms 14 = .ok (.invokevirtual 58, 3) := by decide +kernel
theorem dX6_terms_17 : decode cX6_terms 17 = .ok (.aload_n 0, 1) := by decide +kernel
theorem dX6_terms_18 : decode cX6_terms 18 = .ok (.getfield 12, 3) := by decide +kernel
theorem dX6_terms_21 : decode cX6_terms 21 = .ok (.getfield 46, 3) := by decide +kernel
theorem dX6_terms_24 : decode cX6_terms 24 = .ok (.if_icmp .ge 7, 3) := by decide +kernel
theorem dX6_terms_27 : decode cX6_terms 27 = .ok (.sipush (-1003), 3) := by decide +kernel
theorem dX6_terms_30 : decode cX6_terms 30 = .ok (.ireturn, 1) := by decide +kernel
theorem dX6_terms_31 : decode cX6_terms 31 = .ok (.aload_n 0, 1) := by decide +kernel
theorem dX6_terms_32 : decode cX6_terms 32 = .ok (.getfield 19, 3) := by decide +kernel
theorem dX6_terms_35 : decode cX6_terms 35 = .ok (.aload_n 0, 1) := by decide +kernel
theorem dX6_terms_36 : decode cX6_terms 36 = .ok (.getfield 12, 3) := by decide +kernel
theorem dX6_terms_39 : decode cX6_terms 39 = .ok (.invokevirtual 61, 3) := by decide +kernel
theorem dX6_terms_42 : decode cX6_terms 42 = .ok (.invokevirtual 65, 3) := by decide +kernel
theorem dX6_terms_45 : decode cX6_terms 45 = .ok (.istore_n 1, 1) := by decide +kernel
theorem dX6_terms_46 : decode cX6_terms 46 = .ok (.iload_n 1, 1) := by decide +kernel
theorem dX6_terms_47 : decode cX6_terms 47 = .ok (.iconst (-1), 1) := by decide +kernel
theorem dX6_terms_48 : decode cX6_terms 48 = .ok (.if_icmp .ne 7, 3) := by decide +kernel
theorem dX6_terms_51 : decode cX6_terms 51 = .ok (.sipush (-1004), 3) := by decide +kernel
theorem dX6_terms_54 : decode cX6_terms 54 = .ok (.ireturn, 1) := by decide +kernel
theorem dX6_terms_55 : decode cX6_terms 55 = .ok (.aload_n 0, 1) := by decide +kernel
theorem dX6_terms_56 : decode cX6_terms 56 = .ok (.getfield 12, 3) := by decide +kernel
theorem dX6_terms_59 : decode cX6_terms 59 = .ok (.invokevirtual 54, 3) := by decide +kernel
theorem dX6_terms_62 : decode cX6_terms 62 = .ok (.pop, 1) := by decide +kernel
theorem dX6_terms_63 : decode cX6_terms 63 = .ok (.iload_n 1, 1) := by decide +kernel
theorem dX6_terms_64 : decode cX6_terms 64 = .ok (.ireturn, 1) := by decide +kernel
set_option maxRecDepth 20000 in
theorem ggX6_reach_X0_has : GoodIn wsX6_reach wsX0_has := goodIn_r _ [6, 7, 23, 24] (by decide +kernel) (by decide +kernel)
set_option maxRecDepth 20000 in
theorem gX6_reach_X0_has : GoodIn wsX6_reach (wsV RX6 69 RX0 yX0_has wsX0_has) := goodIn_app (goodIn_of _ (by decide +kernel)) ggX6_reach_X0_has
set_option maxRecDepth 20000 in
theorem ggX6_reach_X6_isItem : GoodIn wsX6_reach wsX6_isItem := goodIn_r _ [11] (by decide +kernel) (by decide +kernel)
set_option maxRecDepth 20000 in
theorem gX6_reach_X6_isItem : GoodIn wsX6_reach (va_wsS RX6 73 yX6_isItem wsX6_isItem) := goodIn_app (goodIn_of _ (by decide +kernel)) ggX6_reach_X6_isItem
set_option maxRecDepth 20000 in
theorem ggX6_reach_X4_greatest : GoodIn wsX6_reach wsX4_greatest := goodIn_r _ [15, 16, 10, 17] (by decide +kernel) (by decide +kernel)
set_option maxRecDepth 20000 in
theorem gX6_reach_X4_greatest : GoodIn wsX6_reach (va_wsS RX6 80 yX4_greatest wsX4_greatest) := goodIn_app (goodIn_of _ (by decide +kernel)) ggX6_reach_X4_greatest
theorem dX6_reach_0 : decode cX6_reach 0 = .ok (.aload_n 0, 1) := by decide +kernel
theorem dX6_reach_1 : decode cX6_reach 1 = .ok (.getfield 19, 3) := by decide +kernel
theorem dX6_reach_4 : decode cX6_reach 4 = .ok (.iload_n 1, 1) := by decide +kernel
theorem dX6_reach_5 : decode cX6_reach 5 = .ok (.invokevirtual 69, 3) := by decide +kernel
theorem dX6_reach_8 : decode cX6_reach 8 = .ok (.ifCond .ne 7, 3) := by decide +kernel
theorem dX6_reach_11 : decode cX6_reach 11 = .ok (.sipush (-1001), 3) := by decide +kernel
theorem dX6_reach_14 : decode cX6_reach 14 = .ok (.ireturn, 1) := by decide +kernel
theorem dX6_reach_15 : decode cX6_reach 15 = .ok (.iload_n 2, 1) := by decide +kernel
theorem dX6_reach_16 : decode cX6_reach 16 = .ok (.invokestatic 73, 3) := by decide +kernel
theorem dX6_reach_19 : decode cX6_reach 19 = .ok (.ifCond .eq 19, 3) := by decide +kernel
theorem dX6_reach_22 : decode cX6_reach 22 = .ok (.aload_n 0, 1) := by decide +kernel
theorem dX6_reach_23 : decode cX6_reach 23 = .ok (.getfield 19, 3) := by decide +kernel
theorem dX6_reach_26 : decode cX6_reach 26 = .ok (.getfield 76, 3) := by decide +kernel
theorem dX6_reach_29 : decode cX6_reach 29 = .ok (.iload_n 1, 1) := by decide +kernel
theorem dX6_reach_30 : decode cX6_reach 30 = .ok (.laload, 1) := by decide +kernel
theorem dX6_reach_31 : decode cX6_reach 31 = .ok (.iload_n 2, 1) := by decide +kernel
theorem dX6_reach_32 : decode cX6_reach 32 = .ok (.invokestatic 80, 3) := by decide +kernel
theorem dX6_reach_35 : decode cX6_reach 35 = .ok (.goto 6, 3) := by decide +kernel
theorem dX6_reach_38 : decode cX6_reach 38 = .ok (.sipush (-1002), 3) := by decide +kernel
theorem dX6_reach_41 : decode cX6_reach 41 = .ok (.ireturn, 1) := by decide +kernel
set_option maxRecDepth 20000 in
theorem ggX6_two_X0_has : GoodIn wsX6_two wsX0_has := goodIn_r _ [6, 7, 23, 24] (by decide +kernel) (by decide +kernel)
set_option maxRecDepth 20000 in
theorem gX6_two_X0_has : GoodIn wsX6_two (wsV RX6 69 RX0 yX0_has wsX0_has) := goodIn_app (goodIn_of _ (by decide +kernel)) ggX6_two_X0_has
set_option maxRecDepth 20000 in
theorem ggX6_two_X4_looser : GoodIn wsX6_two wsX4_looser := goodIn_r _ [11, 12] (by decide +kernel) (by decide +kernel)
set_option maxRecDepth 20000 in
theorem gX6_two_X4_looser : GoodIn wsX6_two (va_wsS RX6 86 yX4_looser wsX4_looser) := goodIn_app (goodIn_of _ (by decide +kernel)) ggX6_two_X4_looser
set_option maxRecDepth 20000 in
theorem ggX6_two_X0_find : GoodIn wsX6_two wsX0_find := goodIn_r _ [16, 7, 17, 23, 24] (by decide +kernel) (by decide +kernel)
set_option maxRecDepth 20000 in
theorem gX6_two_X0_find : GoodIn wsX6_two (wsV RX6 90 RX0 yX0_find wsX0_find) := goodIn_app (goodIn_of _ (by decide +kernel)) ggX6_two_X0_find
theorem dX6_two_0 : decode cX6_two 0 = .ok (.aload_n 0, 1) := by decide +kernel
theorem dX6_two_1 : decode cX6_two 1 = .ok (.getfield 19, 3) := by decide +kernel
theorem dX6_two_4 : decode cX6_two 4 = .ok (.iload_n 1, 1) := by decide +kernel
theorem dX6_two_5 : decode cX6_two 5 = .ok (.invokevirtual 69, 3) := by decide +kernel
theorem dX6_two_8 : decode cX6_two 8 = .ok (.ifCond .eq 14, 3) := by decide +kernel
theorem dX6_two_11 : decode cX6_two 11 = .ok (.aload_n 0, 1) := by decide +kernel
theorem dX6_two_12 : decode cX6_two 12 = .ok (.getfield 19, 3) := by decide +kernel
theorem dX6_two_15 : decode cX6_two 15 = .ok (.iload_n 2, 1) := by decide +kernel
theorem dX6_two_16 : decode cX6_two 16 = .ok (.invokevirtual 69, 3) := by decide +kernel
theorem dX6_two_19 : decode cX6_two 19 = .ok (.ifCond .ne 7, 3) := by decide +kernel
theorem dX6_two_22 : decode cX6_two 22 = .ok (.sipush (-1001), 3) := by decide +kernel
theorem dX6_two_25 : decode cX6_two 25 = .ok (.ireturn, 1) := by decide +kernel
theorem dX6_two_26 : decode cX6_two 26 = .ok (.aload_n 0, 1) := by decide +kernel
theorem dX6_two_27 : decode cX6_two 27 = .ok (.getfield 19, 3) := by decide +kernel
theorem dX6_two_30 : decode cX6_two 30 = .ok (.getfield 76, 3) := by decide +kernel
theorem dX6_two_33 : decode cX6_two 33 = .ok (.iload_n 1, 1) := by decide +kernel
theorem dX6_two_34 : decode cX6_two 34 = .ok (.laload, 1) := by decide +kernel
theorem dX6_two_35 : decode cX6_two 35 = .ok (.lstore 4, 2) := by decide +kernel
theorem dX6_two_37 : decode cX6_two 37 = .ok (.aload_n 0, 1) := by decide +kernel
theorem dX6_two_38 : decode cX6_two 38 = .ok (.getfield 19, 3) := by decide +kernel
theorem dX6_two_41 : decode cX6_two 41 = .ok (.getfield 76, 3) := by decide +kernel
theorem dX6_two_44 : decode cX6_two 44 = .ok (.iload_n 2, 1) := by decide +kernel
theorem dX6_two_45 : decode cX6_two 45 = .ok (.laload, 1) := by decide +kernel
theorem dX6_two_46 : decode cX6_two 46 = .ok (.lstore 6, 2) := by decide +kernel
theorem dX6_two_48 : decode cX6_two 48 = .ok (.iload_n 3, 1) := by decide +kernel
theorem dX6_two_49 : decode cX6_two 49 = .ok (.tableswitch 61 0 2 #[27, 35, 48], 27) := by decide +kernel
theorem dX6_two_76 : decode cX6_two 76 = .ok (.lload 4, 2) := by decide +kernel
theorem dX6_two_78 : decode cX6_two 78 = .ok (.lload 6, 2) := by decide +kernel
theorem dX6_two_80 : decode cX6_two 80 = .ok (.invokestatic 86, 3) := by decide +kernel
theorem dX6_two_83 : decode cX6_two 83 = .ok (.ireturn, 1) := by decide +kernel
theorem dX6_two_84 : decode cX6_two 84 = .ok (.aload_n 0, 1) := by decide +kernel
theorem dX6_two_85 : decode cX6_two 85 = .ok (.getfield 19, 3) := by decide +kernel
theorem dX6_two_88 : decode cX6_two 88 = .ok (.lload 4, 2) := by decide +kernel
theorem dX6_two_90 : decode cX6_two 90 = .ok (.lload 6, 2) := by decide +kernel
theorem dX6_two_92 : decode cX6_two 92 = .ok (.lor, 1) := by decide +kernel
theorem dX6_two_93 : decode cX6_two 93 = .ok (.invokevirtual 90, 3) := by decide +kernel
theorem dX6_two_96 : decode cX6_two 96 = .ok (.ireturn, 1) := by decide +kernel
theorem dX6_two_97 : decode cX6_two 97 = .ok (.aload_n 0, 1) := by decide +kernel
theorem dX6_two_98 : decode cX6_two 98 = .ok (.getfield 19, 3) := by decide +kernel
theorem dX6_two_101 : decode cX6_two 101 = .ok (.lload 4, 2) := by decide +kernel
theorem dX6_two_103 : decode cX6_two 103 = .ok (.lload 6, 2) := by decide +kernel
theorem dX6_two_105 : decode cX6_two 105 = .ok (.land, 1) := by decide +kernel
theorem dX6_two_106 : decode cX6_two 106 = .ok (.invokevirtual 90, 3) := by decide +kernel
theorem dX6_two_109 : decode cX6_two 109 = .ok (.ireturn, 1) := by decide +kernel
theorem dX6_two_110 : decode cX6_two 110 = .ok (.sipush (-1002), 3) := by decide +kernel
theorem dX6_two_113 : decode cX6_two 113 = .ok (.ireturn, 1) := by decide +kernel
set_option maxRecDepth 20000 in
theorem ggX6_part_X0_has : GoodIn wsX6_part wsX0_has := goodIn_r _ [7, 8, 48, 49] (by decide +kernel) (by decide +kernel)
set_option maxRecDepth 20000 in
theorem gX6_part_X0_has : GoodIn wsX6_part (wsV RX6 69 RX0 yX0_has wsX0_has) := goodIn_app (goodIn_of _ (by decide +kernel)) ggX6_part_X0_has
set_option maxRecDepth 20000 in
theorem ggX6_part_X3_leastFree : GoodIn wsX6_part wsX3_leastFree := goodIn_r _ [13, 14, 15, 16, 12, 17, 18, 19, 20, 21, 50, 51, 52, 53, 54, 55, 56, 57] (by decide +kernel) (by decide +kernel)
set_option maxRecDepth 20000 in
theorem gX6_part_X3_leastFree : GoodIn wsX6_part (wsV RX6 93 RX3 yX3_leastFree wsX3_leastFree) := goodIn_app (goodIn_of _ (by decide +kernel)) ggX6_part_X3_leastFree
set_option maxRecDepth 20000 in
theorem ggX6_part_X3_put : GoodIn wsX6_part wsX3_put := goodIn_r _ [25, 18, 26, 27, 28, 29, 30, 12, 31, 32, 33, 34, 35, 36, 37, 19, 20, 21, 38, 39, 40, 41, 42, 50, 51, 52, 53, 54, 55, 56, 57] (by decide +kernel) (by decide +kernel)
set_option maxRecDepth 20000 in
theorem gX6_part_X3_put : GoodIn wsX6_part (wsV RX6 96 RX3 yX3_put wsX3_put) := goodIn_app (goodIn_of _ (by decide +kernel)) ggX6_part_X3_put
theorem dX6_part_0 : decode cX6_part 0 = .ok (.aload_n 0, 1) := by decide +kernel
theorem dX6_part_1 : decode cX6_part 1 = .ok (.getfield 19, 3) := by decide +kernel
theorem dX6_part_4 : decode cX6_part 4 = .ok (.iload_n 1, 1) := by decide +kernel
theorem dX6_part_5 : decode cX6_part 5 = .ok (.invokevirtual 69, 3) := by decide +kernel
theorem dX6_part_8 : decode cX6_part 8 = .ok (.ifCond .ne 7, 3) := by decide +kernel
theorem dX6_part_11 : decode cX6_part 11 = .ok (.sipush (-1001), 3) := by decide +kernel
theorem dX6_part_14 : decode cX6_part 14 = .ok (.ireturn, 1) := by decide +kernel
theorem dX6_part_15 : decode cX6_part 15 = .ok (.aload_n 0, 1) := by decide +kernel
theorem dX6_part_16 : decode cX6_part 16 = .ok (.getfield 26, 3) := by decide +kernel
theorem dX6_part_19 : decode cX6_part 19 = .ok (.invokevirtual 93, 3) := by decide +kernel
theorem dX6_part_22 : decode cX6_part 22 = .ok (.istore_n 2, 1) := by decide +kernel
theorem dX6_part_23 : decode cX6_part 23 = .ok (.iload_n 2, 1) := by decide +kernel
theorem dX6_part_24 : decode cX6_part 24 = .ok (.iconst (-1), 1) := by decide +kernel
theorem dX6_part_25 : decode cX6_part 25 = .ok (.if_icmp .ne 7, 3) := by decide +kernel
theorem dX6_part_28 : decode cX6_part 28 = .ok (.sipush (-1004), 3) := by decide +kernel
theorem dX6_part_31 : decode cX6_part 31 = .ok (.ireturn, 1) := by decide +kernel
theorem dX6_part_32 : decode cX6_part 32 = .ok (.aload_n 0, 1) := by decide +kernel
theorem dX6_part_33 : decode cX6_part 33 = .ok (.getfield 26, 3) := by decide +kernel
theorem dX6_part_36 : decode cX6_part 36 = .ok (.iload_n 2, 1) := by decide +kernel
theorem dX6_part_37 : decode cX6_part 37 = .ok (.iload_n 1, 1) := by decide +kernel
theorem dX6_part_38 : decode cX6_part 38 = .ok (.aload_n 0, 1) := by decide +kernel
theorem dX6_part_39 : decode cX6_part 39 = .ok (.getfield 19, 3) := by decide +kernel
theorem dX6_part_42 : decode cX6_part 42 = .ok (.getfield 76, 3) := by decide +kernel
theorem dX6_part_45 : decode cX6_part 45 = .ok (.iload_n 1, 1) := by decide +kernel
theorem dX6_part_46 : decode cX6_part 46 = .ok (.laload, 1) := by decide +kernel
theorem dX6_part_47 : decode cX6_part 47 = .ok (.invokevirtual 96, 3) := by decide +kernel
theorem dX6_part_50 : decode cX6_part 50 = .ok (.iload_n 2, 1) := by decide +kernel
theorem dX6_part_51 : decode cX6_part 51 = .ok (.ireturn, 1) := by decide +kernel
set_option maxRecDepth 20000 in
theorem ggX6_give_X3_has : GoodIn wsX6_give wsX3_has := goodIn_r _ [7, 8, 9, 10, 11, 44, 45, 46, 47, 48, 49, 50, 51] (by decide +kernel) (by decide +kernel)
set_option maxRecDepth 20000 in
theorem gX6_give_X3_has : GoodIn wsX6_give (wsV RX6 100 RX3 yX3_has wsX3_has) := goodIn_app (goodIn_of _ (by decide +kernel)) ggX6_give_X3_has
set_option maxRecDepth 20000 in
theorem ggX6_give_X0_has : GoodIn wsX6_give wsX0_has := goodIn_r _ [16, 17, 52, 53] (by decide +kernel) (by decide +kernel)
set_option maxRecDepth 20000 in
theorem gX6_give_X0_has : GoodIn wsX6_give (wsV RX6 69 RX0 yX0_has wsX0_has) := goodIn_app (goodIn_of _ (by decide +kernel)) ggX6_give_X0_has
set_option maxRecDepth 20000 in
theorem ggX6_give_X3_put : GoodIn wsX6_give wsX3_put := goodIn_r _ [21, 8, 22, 23, 24, 25, 26, 6, 27, 28, 29, 30, 31, 32, 33, 9, 10, 11, 34, 35, 36, 37, 38, 44, 45, 46, 47, 48, 49, 50, 51] (by decide +kernel) (by decide +kernel)
set_option maxRecDepth 20000 in
theorem gX6_give_X3_put : GoodIn wsX6_give (wsV RX6 96 RX3 yX3_put wsX3_put) := goodIn_app (goodIn_of _ (by decide +kernel)) ggX6_give_X3_put
theorem dX6_give_0 : decode cX6_give 0 = .ok (.aload_n 0, 1) := by decide +kernel
theorem dX6_give_1 : decode cX6_give 1 = .ok (.getfield 26, 3) := by decide +kernel
theorem dX6_give_4 : decode cX6_give 4 = .ok (.iload_n 1, 1) := by decide +kernel
theorem dX6_give_5 : decode cX6_give 5 = .ok (.invokevirtual 100, 3) := by decide +kernel
theorem dX6_give_8 : decode cX6_give 8 = .ok (.ifCond .eq 14, 3) := by decide +kernel
theorem dX6_give_11 : decode cX6_give 11 = .ok (.aload_n 0, 1) := by decide +kernel
theorem dX6_give_12 : decode cX6_give 12 = .ok (.getfield 19, 3) := by decide +kernel
theorem dX6_give_15 : decode cX6_give 15 = .ok (.iload_n 2, 1) := by decide +kernel
theorem dX6_give_16 : decode cX6_give 16 = .ok (.invokevirtual 69, 3) := by decide +kernel
theorem dX6_give_19 : decode cX6_give 19 = .ok (.ifCond .ne 7, 3) := by decide +kernel
theorem dX6_give_22 : decode cX6_give 22 = .ok (.sipush (-1001), 3) := by decide +kernel
theorem dX6_give_25 : decode cX6_give 25 = .ok (.ireturn, 1) := by decide +kernel
theorem dX6_give_26 : decode cX6_give 26 = .ok (.aload_n 0, 1) := by decide +kernel
theorem dX6_give_27 : decode cX6_give 27 = .ok (.getfield 26, 3) := by decide +kernel
theorem dX6_give_30 : decode cX6_give 30 = .ok (.getfield 101, 3) := by decide +kernel
theorem dX6_give_33 : decode cX6_give 33 = .ok (.iload_n 1, 1) := by decide +kernel
theorem dX6_give_34 : decode cX6_give 34 = .ok (.iaload, 1) := by decide +kernel
theorem dX6_give_35 : decode cX6_give 35 = .ok (.istore_n 3, 1) := by decide +kernel
theorem dX6_give_36 : decode cX6_give 36 = .ok (.aload_n 0, 1) := by decide +kernel
theorem dX6_give_37 : decode cX6_give 37 = .ok (.getfield 26, 3) := by decide +kernel
theorem dX6_give_40 : decode cX6_give 40 = .ok (.iload_n 1, 1) := by decide +kernel
theorem dX6_give_41 : decode cX6_give 41 = .ok (.iload_n 2, 1) := by decide +kernel
theorem dX6_give_42 : decode cX6_give 42 = .ok (.aload_n 0, 1) := by decide +kernel
theorem dX6_give_43 : decode cX6_give 43 = .ok (.getfield 19, 3) := by decide +kernel
theorem dX6_give_46 : decode cX6_give 46 = .ok (.getfield 76, 3) := by decide +kernel
theorem dX6_give_49 : decode cX6_give 49 = .ok (.iload_n 2, 1) := by decide +kernel
theorem dX6_give_50 : decode cX6_give 50 = .ok (.laload, 1) := by decide +kernel
theorem dX6_give_51 : decode cX6_give 51 = .ok (.invokevirtual 96, 3) := by decide +kernel
theorem dX6_give_54 : decode cX6_give 54 = .ok (.iload_n 3, 1) := by decide +kernel
theorem dX6_give_55 : decode cX6_give 55 = .ok (.ireturn, 1) := by decide +kernel
set_option maxRecDepth 20000 in
theorem ggX6_leave_X3_has : GoodIn wsX6_leave wsX3_has := goodIn_r _ [6, 7, 8, 9, 10, 60, 61, 62, 63, 64, 65, 66, 67] (by decide +kernel) (by decide +kernel)
set_option maxRecDepth 20000 in
theorem gX6_leave_X3_has : GoodIn wsX6_leave (wsV RX6 100 RX3 yX3_has wsX3_has) := goodIn_app (goodIn_of _ (by decide +kernel)) ggX6_leave_X3_has
set_option maxRecDepth 20000 in
theorem ggX6_leave_X3_remove : GoodIn wsX6_leave wsX3_remove := goodIn_r _ [14, 7, 15, 16, 17, 18, 5, 19, 20, 21, 22, 23, 24, 25, 26, 27, 28, 29, 30, 31, 32, 33, 34, 35, 36, 37, 38, 39, 40, 41, 42, 43, 44, 45, 46, 47, 48, 49, 50, 8, 9, 10, 51, 52, 53, 54, 60, 61, 62, 63, 64, 65, 66, 67] (by decide +kernel) (by decide +kernel)
set_option maxRecDepth 20000 in
theorem gX6_leave_X3_remove : GoodIn wsX6_leave (wsV RX6 105 RX3 yX3_remove wsX3_remove) := goodIn_app (goodIn_of _ (by decide +kernel)) ggX6_leave_X3_remove
theorem dX6_leave_0 : decode cX6_leave 0 = .ok (.aload_n 0, 1) := by decide +kernel
theorem dX6_leave_1 : decode cX6_leave 1 = .ok (.getfield 26, 3) := by decide +kernel
theorem dX6_leave_4 : decode cX6_leave 4 = .ok (.iload_n 1, 1) := by decide +kernel
theorem dX6_leave_5 : decode cX6_leave 5 = .ok (.invokevirtual 100, 3) := by decide +kernel
theorem dX6_leave_8 : decode cX6_leave 8 = .ok (.ifCond .eq 14, 3) := by decide +kernel
theorem dX6_leave_11 : decode cX6_leave 11 = .ok (.aload_n 0, 1) := by decide +kernel
theorem dX6_leave_12 : decode cX6_leave 12 = .ok (.getfield 26, 3) := by decide +kernel
theorem dX6_leave_15 : decode cX6_leave 15 = .ok (.iload_n 1, 1) := by decide +kernel
theorem dX6_leave_16 : decode cX6_leave 16 = .ok (.invokevirtual 105, 3) := by decide +kernel
theorem dX6_leave_19 : decode cX6_leave 19 = .ok (.goto 6, 3) := by decide +kernel
theorem dX6_leave_22 : decode cX6_leave 22 = .ok (.sipush (-1001), 3) := by decide +kernel
theorem dX6_leave_25 : decode cX6_leave 25 = .ok (.ireturn, 1) := by decide +kernel
set_option maxRecDepth 20000 in
theorem ggX6_join_X3_has : GoodIn wsX6_join wsX3_has := goodIn_r _ [6, 7, 8, 9, 10, 51, 52, 53, 54, 55, 56, 57, 58] (by decide +kernel) (by decide +kernel)
set_option maxRecDepth 20000 in
theorem gX6_join_X3_has : GoodIn wsX6_join (wsV RX6 100 RX3 yX3_has wsX3_has) := goodIn_app (goodIn_of _ (by decide +kernel)) ggX6_join_X3_has
set_option maxRecDepth 20000 in
theorem ggX6_join_X3_kindOf : GoodIn wsX6_join wsX3_kindOf := goodIn_r _ [14, 15, 51, 52, 53, 54, 55, 56, 57, 58] (by decide +kernel) (by decide +kernel)
set_option maxRecDepth 20000 in
theorem gX6_join_X3_kindOf : GoodIn wsX6_join (wsV RX6 108 RX3 yX3_kindOf wsX3_kindOf) := goodIn_app (goodIn_of _ (by decide +kernel)) ggX6_join_X3_kindOf
set_option maxRecDepth 20000 in
theorem ggX6_join_X3_setKind : GoodIn wsX6_join wsX3_setKind := goodIn_r _ [19, 20, 21, 22, 5, 23, 15, 24, 25, 26, 27, 28, 29, 30, 31, 32, 33, 34, 35, 7, 36, 37, 38, 39, 40, 41, 8, 9, 10, 42, 43, 44, 45, 51, 52, 53, 54, 55, 56, 57, 58] (by decide +kernel) (by decide +kernel)
set_option maxRecDepth 20000 in
theorem gX6_join_X3_setKind : GoodIn wsX6_join (wsV RX6 112 RX3 yX3_setKind wsX3_setKind) := goodIn_app (goodIn_of _ (by decide +kernel)) ggX6_join_X3_setKind
theorem dX6_join_0 : decode cX6_join 0 = .ok (.aload_n 0, 1) := by decide +kernel
theorem dX6_join_1 : decode cX6_join 1 = .ok (.getfield 26, 3) := by decide +kernel
theorem dX6_join_4 : decode cX6_join 4 = .ok (.iload_n 1, 1) := by decide +kernel
theorem dX6_join_5 : decode cX6_join 5 = .ok (.invokevirtual 100, 3) := by decide +kernel
theorem dX6_join_8 : decode cX6_join 8 = .ok (.ifCond .eq 19, 3) := by decide +kernel
theorem dX6_join_11 : decode cX6_join 11 = .ok (.aload_n 0, 1) := by decide +kernel
theorem dX6_join_12 : decode cX6_join 12 = .ok (.getfield 26, 3) := by decide +kernel
theorem dX6_join_15 : decode cX6_join 15 = .ok (.iload_n 2, 1) := by decide +kernel
theorem dX6_join_16 : decode cX6_join 16 = .ok (.invokevirtual 100, 3) := by decide +kernel
theorem dX6_join_19 : decode cX6_join 19 = .ok (.ifCond .eq 8, 3) := by decide +kernel
theorem dX6_join_22 : decode cX6_join 22 = .ok (.iload_n 1, 1) := by decide +kernel
theorem dX6_join_23 : decode cX6_join 23 = .ok (.iload_n 2, 1) := by decide +kernel
theorem dX6_join_24 : decode cX6_join 24 = .ok (.if_icmp .ne 7, 3) := by decide +kernel
theorem dX6_join_27 : decode cX6_join 27 = .ok (.sipush (-1001), 3) := by decide +kernel
theorem dX6_join_30 : decode cX6_join 30 = .ok (.ireturn, 1) := by decide +kernel
theorem dX6_join_31 : decode cX6_join 31 = .ok (.iload_n 3, 1) := by decide +kernel
theorem dX6_join_32 : decode cX6_join 32 = .ok (.iconst (-1), 1) := by decide +kernel
theorem dX6_join_33 : decode cX6_join 33 = .ok (.if_icmp .lt 8, 3) := by decide +kernel
theorem dX6_join_36 : decode cX6_join 36 = .ok (.iload_n 3, 1) := by decide +kernel
theorem dX6_join_37 : decode cX6_join 37 = .ok (.iconst 3, 1) := by decide +kernel
theorem dX6_join_38 : decode cX6_join 38 = .ok (.if_icmp .le 7, 3) := by decide +kernel
theorem dX6_join_41 : decode cX6_join 41 = .ok (.sipush (-1002), 3) := by decide +kernel
theorem dX6_join_44 : decode cX6_join 44 = .ok (.ireturn, 1) := by decide +kernel
theorem dX6_join_45 : decode cX6_join 45 = .ok (.aload_n 0, 1) := by decide +kernel
theorem dX6_join_46 : decode cX6_join 46 = .ok (.getfield 26, 3) := by decide +kernel
theorem dX6_join_49 : decode cX6_join 49 = .ok (.iload_n 1, 1) := by decide +kernel
theorem dX6_join_50 : decode cX6_join 50 = .ok (.iload_n 2, 1) := by decide +kernel
theorem dX6_join_51 : decode cX6_join 51 = .ok (.invokevirtual 108, 3) := by decide +kernel
theorem dX6_join_54 : decode cX6_join 54 = .ok (.istore 4, 2) := by decide +kernel
theorem dX6_join_56 : decode cX6_join 56 = .ok (.aload_n 0, 1) := by decide +kernel
theorem dX6_join_57 : decode cX6_join 57 = .ok (.getfield 26, 3) := by decide +kernel
theorem dX6_join_60 : decode cX6_join 60 = .ok (.iload_n 1, 1) := by decide +kernel
theorem dX6_join_61 : decode cX6_join 61 = .ok (.iload_n 2, 1) := by decide +kernel
theorem dX6_join_62 : decode cX6_join 62 = .ok (.iload_n 3, 1) := by decide +kernel
theorem dX6_join_63 : decode cX6_join 63 = .ok (.invokevirtual 112, 3) := by decide +kernel
theorem dX6_join_66 : decode cX6_join 66 = .ok (.iload 4, 2) := by decide +kernel
theorem dX6_join_68 : decode cX6_join 68 = .ok (.ireturn, 1) := by decide +kernel
set_option maxRecDepth 20000 in
theorem ggX6_kind_X3_has : GoodIn wsX6_kind wsX3_has := goodIn_r _ [6, 7, 8, 9, 10, 21, 22, 23, 24, 25, 26, 27, 28] (by decide +kernel) (by decide +kernel)
set_option maxRecDepth 20000 in
theorem gX6_kind_X3_has : GoodIn wsX6_kind (wsV RX6 100 RX3 yX3_has wsX3_has) := goodIn_app (goodIn_of _ (by decide +kernel)) ggX6_kind_X3_has
set_option maxRecDepth 20000 in
theorem ggX6_kind_X3_kindOf : GoodIn wsX6_kind wsX3_kindOf := goodIn_r _ [14, 15, 21, 22, 23, 24, 25, 26, 27, 28] (by decide +kernel) (by decide +kernel)
set_option maxRecDepth 20000 in
theorem gX6_kind_X3_kindOf : GoodIn wsX6_kind (wsV RX6 108 RX3 yX3_kindOf wsX3_kindOf) := goodIn_app (goodIn_of _ (by decide +kernel)) ggX6_kind_X3_kindOf
theorem dX6_kind_0 : decode cX6_kind 0 = .ok (.aload_n 0, 1) := by decide +kernel
theorem dX6_kind_1 : decode cX6_kind 1 = .ok (.getfield 26, 3) := by decide +kernel
theorem dX6_kind_4 : decode cX6_kind 4 = .ok (.iload_n 1, 1) := by decide +kernel
theorem dX6_kind_5 : decode cX6_kind 5 = .ok (.invokevirtual 100, 3) := by decide +kernel
theorem dX6_kind_8 : decode cX6_kind 8 = .ok (.ifCond .eq 26, 3) := by decide +kernel
theorem dX6_kind_11 : decode cX6_kind 11 = .ok (.aload_n 0, 1) := by decide +kernel
theorem dX6_kind_12 : decode cX6_kind 12 = .ok (.getfield 26, 3) := by decide +kernel
theorem dX6_kind_15 : decode cX6_kind 15 = .ok (.iload_n 2, 1) := by decide +kernel
theorem dX6_kind_16 : decode cX6_kind 16 = .ok (.invokevirtual 100, 3) := by decide +kernel
theorem dX6_kind_19 : decode cX6_kind 19 = .ok (.ifCond .eq 15, 3) := by decide +kernel
theorem dX6_kind_22 : decode cX6_kind 22 = .ok (.aload_n 0, 1) := by decide +kernel
theorem dX6_kind_23 : decode cX6_kind 23 = .ok (.getfield 26, 3) := by decide +kernel
theorem dX6_kind_26 : decode cX6_kind 26 = .ok (.iload_n 1, 1) := by decide +kernel
theorem dX6_kind_27 : decode cX6_kind 27 = .ok (.iload_n 2, 1) := by decide +kernel
end
section
theorem dX6_kind_28 : decode cX6_kind 28 = .ok (.invokevirtual 108, 3) := by decide +kernel
theorem dX6_kind_31 : decode cX6_kind 31 = .ok (.goto 6, 3) := by decide +kernel
theorem dX6_kind_34 : decode cX6_kind 34 = .ok (.sipush (-1001), 3) := by decide +kernel
theorem dX6_kind_37 : decode cX6_kind 37 = .ok (.ireturn, 1) := by decide +kernel
set_option maxRecDepth 20000 in
theorem ggX6_of_X3_has : GoodIn wsX6_of wsX3_has := goodIn_r _ [6, 7, 8, 9, 10, 50, 51, 52, 53, 54, 55, 56, 57] (by decide +kernel) (by decide +kernel)
set_option maxRecDepth 20000 in
theorem gX6_of_X3_has : GoodIn wsX6_of (wsV RX6 100 RX3 yX3_has wsX3_has) := goodIn_app (goodIn_of _ (by decide +kernel)) ggX6_of_X3_has
set_option maxRecDepth 20000 in
theorem ggX6_of_X4_duties : GoodIn wsX6_of wsX4_duties := goodIn_r _ [14, 15, 16, 13, 17] (by decide +kernel) (by decide +kernel)
set_option maxRecDepth 20000 in
theorem gX6_of_X4_duties : GoodIn wsX6_of (va_wsS RX6 119 yX4_duties wsX4_duties) := goodIn_app (goodIn_of _ (by decide +kernel)) ggX6_of_X4_duties
set_option maxRecDepth 20000 in
theorem ggX6_of_X4_bars : GoodIn wsX6_of wsX4_bars := goodIn_r _ [20, 15, 16, 13, 17] (by decide +kernel) (by decide +kernel)
set_option maxRecDepth 20000 in
theorem gX6_of_X4_bars : GoodIn wsX6_of (va_wsS RX6 122 yX4_bars wsX4_bars) := goodIn_app (goodIn_of _ (by decide +kernel)) ggX6_of_X4_bars
set_option maxRecDepth 20000 in
theorem ggX6_of_X4_meeting : GoodIn wsX6_of wsX4_meeting := goodIn_r _ [23, 15, 16, 13, 17] (by decide +kernel) (by decide +kernel)
set_option maxRecDepth 20000 in
theorem gX6_of_X4_meeting : GoodIn wsX6_of (va_wsS RX6 125 yX4_meeting wsX4_meeting) := goodIn_app (goodIn_of _ (by decide +kernel)) ggX6_of_X4_meeting
set_option maxRecDepth 20000 in
theorem ggX6_of_X3_namesOf : GoodIn wsX6_of wsX3_namesOf := goodIn_r _ [27, 8, 9, 10, 28, 29, 30, 5, 31, 32, 33, 34, 35, 36, 50, 51, 52, 53, 54, 55, 56, 57] (by decide +kernel) (by decide +kernel)
set_option maxRecDepth 20000 in
theorem gX6_of_X3_namesOf : GoodIn wsX6_of (wsV RX6 128 RX3 yX3_namesOf wsX3_namesOf) := goodIn_app (goodIn_of _ (by decide +kernel)) ggX6_of_X3_namesOf
set_option maxRecDepth 20000 in
theorem ggX6_of_X3_joinsFrom : GoodIn wsX6_of wsX3_joinsFrom := goodIn_r _ [40, 32, 33, 34, 5, 35, 36, 50, 51, 52, 53, 54, 55, 56, 57] (by decide +kernel) (by decide +kernel)
set_option maxRecDepth 20000 in
theorem gX6_of_X3_joinsFrom : GoodIn wsX6_of (wsV RX6 131 RX3 yX3_joinsFrom wsX3_joinsFrom) := goodIn_app (goodIn_of _ (by decide +kernel)) ggX6_of_X3_joinsFrom
set_option maxRecDepth 20000 in
theorem ggX6_of_X3_joinsTo : GoodIn wsX6_of wsX3_joinsTo := goodIn_r _ [44, 32, 33, 34, 5, 35, 36, 50, 51, 52, 53, 54, 55, 56, 57] (by decide +kernel) (by decide +kernel)
set_option maxRecDepth 20000 in
theorem gX6_of_X3_joinsTo : GoodIn wsX6_of (wsV RX6 134 RX3 yX3_joinsTo wsX3_joinsTo) := goodIn_app (goodIn_of _ (by decide +kernel)) ggX6_of_X3_joinsTo
theorem dX6_of_0 : decode cX6_of 0 = .ok (.aload_n 0, 1) := by decide +kernel
theorem dX6_of_1 : decode cX6_of 1 = .ok (.getfield 26, 3) := by decide +kernel
theorem dX6_of_4 : decode cX6_of 4 = .ok (.iload_n 1, 1) := by decide +kernel
theorem dX6_of_5 : decode cX6_of 5 = .ok (.invokevirtual 100, 3) := by decide +kernel
theorem dX6_of_8 : decode cX6_of 8 = .ok (.ifCond .ne 7, 3) := by decide +kernel
theorem dX6_of_11 : decode cX6_of 11 = .ok (.sipush (-1001), 3) := by decide +kernel
theorem dX6_of_14 : decode cX6_of 14 = .ok (.ireturn, 1) := by decide +kernel
theorem dX6_of_15 : decode cX6_of 15 = .ok (.iload_n 2, 1) := by decide +kernel
theorem dX6_of_16 : decode cX6_of 16 = .ok (.tableswitch 120 0 6 #[44, 54, 67, 80, 93, 102, 111], 44) := by decide +kernel
theorem dX6_of_60 : decode cX6_of 60 = .ok (.aload_n 0, 1) := by decide +kernel
theorem dX6_of_61 : decode cX6_of 61 = .ok (.getfield 26, 3) := by decide +kernel
theorem dX6_of_64 : decode cX6_of 64 = .ok (.getfield 101, 3) := by decide +kernel
theorem dX6_of_67 : decode cX6_of 67 = .ok (.iload_n 1, 1) := by decide +kernel
theorem dX6_of_68 : decode cX6_of 68 = .ok (.iaload, 1) := by decide +kernel
theorem dX6_of_69 : decode cX6_of 69 = .ok (.ireturn, 1) := by decide +kernel
theorem dX6_of_70 : decode cX6_of 70 = .ok (.aload_n 0, 1) := by decide +kernel
theorem dX6_of_71 : decode cX6_of 71 = .ok (.getfield 26, 3) := by decide +kernel
theorem dX6_of_74 : decode cX6_of 74 = .ok (.getfield 116, 3) := by decide +kernel
theorem dX6_of_77 : decode cX6_of 77 = .ok (.iload_n 1, 1) := by decide +kernel
theorem dX6_of_78 : decode cX6_of 78 = .ok (.laload, 1) := by decide +kernel
theorem dX6_of_79 : decode cX6_of 79 = .ok (.invokestatic 119, 3) := by decide +kernel
theorem dX6_of_82 : decode cX6_of 82 = .ok (.ireturn, 1) := by decide +kernel
theorem dX6_of_83 : decode cX6_of 83 = .ok (.aload_n 0, 1) := by decide +kernel
theorem dX6_of_84 : decode cX6_of 84 = .ok (.getfield 26, 3) := by decide +kernel
theorem dX6_of_87 : decode cX6_of 87 = .ok (.getfield 116, 3) := by decide +kernel
theorem dX6_of_90 : decode cX6_of 90 = .ok (.iload_n 1, 1) := by decide +kernel
theorem dX6_of_91 : decode cX6_of 91 = .ok (.laload, 1) := by decide +kernel
theorem dX6_of_92 : decode cX6_of 92 = .ok (.invokestatic 122, 3) := by decide +kernel
theorem dX6_of_95 : decode cX6_of 95 = .ok (.ireturn, 1) := by decide +kernel
theorem dX6_of_96 : decode cX6_of 96 = .ok (.aload_n 0, 1) := by decide +kernel
theorem dX6_of_97 : decode cX6_of 97 = .ok (.getfield 26, 3) := by decide +kernel
theorem dX6_of_100 : decode cX6_of 100 = .ok (.getfield 116, 3) := by decide +kernel
theorem dX6_of_103 : decode cX6_of 103 = .ok (.iload_n 1, 1) := by decide +kernel
theorem dX6_of_104 : decode cX6_of 104 = .ok (.laload, 1) := by decide +kernel
theorem dX6_of_105 : decode cX6_of 105 = .ok (.invokestatic 125, 3) := by decide +kernel
theorem dX6_of_108 : decode cX6_of 108 = .ok (.ireturn, 1) := by decide +kernel
theorem dX6_of_109 : decode cX6_of 109 = .ok (.aload_n 0, 1) := by decide +kernel
theorem dX6_of_110 : decode cX6_of 110 = .ok (.getfield 26, 3) := by decide +kernel
theorem dX6_of_113 : decode cX6_of 113 = .ok (.iload_n 1, 1) := by decide +kernel
theorem dX6_of_114 : decode cX6_of 114 = .ok (.invokevirtual 128, 3) := by decide +kernel
theorem dX6_of_117 : decode cX6_of 117 = .ok (.ireturn, 1) := by decide +kernel
theorem dX6_of_118 : decode cX6_of 118 = .ok (.aload_n 0, 1) := by decide +kernel
theorem dX6_of_119 : decode cX6_of 119 = .ok (.getfield 26, 3) := by decide +kernel
theorem dX6_of_122 : decode cX6_of 122 = .ok (.iload_n 1, 1) := by decide +kernel
theorem dX6_of_123 : decode cX6_of 123 = .ok (.invokevirtual 131, 3) := by decide +kernel
theorem dX6_of_126 : decode cX6_of 126 = .ok (.ireturn, 1) := by decide +kernel
theorem dX6_of_127 : decode cX6_of 127 = .ok (.aload_n 0, 1) := by decide +kernel
theorem dX6_of_128 : decode cX6_of 128 = .ok (.getfield 26, 3) := by decide +kernel
theorem dX6_of_131 : decode cX6_of 131 = .ok (.iload_n 1, 1) := by decide +kernel
theorem dX6_of_132 : decode cX6_of 132 = .ok (.invokevirtual 134, 3) := by decide +kernel
theorem dX6_of_135 : decode cX6_of 135 = .ok (.ireturn, 1) := by decide +kernel
theorem dX6_of_136 : decode cX6_of 136 = .ok (.sipush (-1002), 3) := by decide +kernel
theorem dX6_of_139 : decode cX6_of 139 = .ok (.ireturn, 1) := by decide +kernel
set_option maxRecDepth 20000 in
theorem ggX6_held_X3_has : GoodIn wsX6_held wsX3_has := goodIn_r _ [6, 7, 8, 9, 10, 28, 29, 30, 31, 32, 33, 34, 35] (by decide +kernel) (by decide +kernel)
set_option maxRecDepth 20000 in
theorem gX6_held_X3_has : GoodIn wsX6_held (wsV RX6 100 RX3 yX3_has wsX3_has) := goodIn_app (goodIn_of _ (by decide +kernel)) ggX6_held_X3_has
set_option maxRecDepth 20000 in
theorem ggX6_held_X6_isItem : GoodIn wsX6_held wsX6_isItem := goodIn_r _ [13] (by decide +kernel) (by decide +kernel)
set_option maxRecDepth 20000 in
theorem gX6_held_X6_isItem : GoodIn wsX6_held (va_wsS RX6 73 yX6_isItem wsX6_isItem) := goodIn_app (goodIn_of _ (by decide +kernel)) ggX6_held_X6_isItem
set_option maxRecDepth 20000 in
theorem ggX6_held_X3_reachHeld : GoodIn wsX6_held wsX3_reachHeld := goodIn_r _ [17, 18, 19, 20, 21, 22, 8, 9, 10, 28, 29, 30, 31, 32, 33, 34, 35] (by decide +kernel) (by decide +kernel)
set_option maxRecDepth 20000 in
theorem gX6_held_X3_reachHeld : GoodIn wsX6_held (wsV RX6 137 RX3 yX3_reachHeld wsX3_reachHeld) := goodIn_app (goodIn_of _ (by decide +kernel)) ggX6_held_X3_reachHeld
theorem dX6_held_0 : decode cX6_held 0 = .ok (.aload_n 0, 1) := by decide +kernel
theorem dX6_held_1 : decode cX6_held 1 = .ok (.getfield 26, 3) := by decide +kernel
theorem dX6_held_4 : decode cX6_held 4 = .ok (.iload_n 1, 1) := by decide +kernel
theorem dX6_held_5 : decode cX6_held 5 = .ok (.invokevirtual 100, 3) := by decide +kernel
theorem dX6_held_8 : decode cX6_held 8 = .ok (.ifCond .ne 7, 3) := by decide +kernel
theorem dX6_held_11 : decode cX6_held 11 = .ok (.sipush (-1001), 3) := by decide +kernel
theorem dX6_held_14 : decode cX6_held 14 = .ok (.ireturn, 1) := by decide +kernel
theorem dX6_held_15 : decode cX6_held 15 = .ok (.iload_n 2, 1) := by decide +kernel
theorem dX6_held_16 : decode cX6_held 16 = .ok (.invokestatic 73, 3) := by decide +kernel
theorem dX6_held_19 : decode cX6_held 19 = .ok (.ifCond .eq 15, 3) := by decide +kernel
theorem dX6_held_22 : decode cX6_held 22 = .ok (.aload_n 0, 1) := by decide +kernel
theorem dX6_held_23 : decode cX6_held 23 = .ok (.getfield 26, 3) := by decide +kernel
theorem dX6_held_26 : decode cX6_held 26 = .ok (.iload_n 1, 1) := by decide +kernel
theorem dX6_held_27 : decode cX6_held 27 = .ok (.iload_n 2, 1) := by decide +kernel
theorem dX6_held_28 : decode cX6_held 28 = .ok (.invokevirtual 137, 3) := by decide +kernel
theorem dX6_held_31 : decode cX6_held 31 = .ok (.goto 6, 3) := by decide +kernel
theorem dX6_held_34 : decode cX6_held 34 = .ok (.sipush (-1002), 3) := by decide +kernel
theorem dX6_held_37 : decode cX6_held 37 = .ok (.ireturn, 1) := by decide +kernel
set_option maxRecDepth 20000 in
theorem ggX6_way_X3_has : GoodIn wsX6_way wsX3_has := goodIn_r _ [7, 8, 9, 10, 11, 55, 56, 57, 58, 59, 60, 61, 62] (by decide +kernel) (by decide +kernel)
set_option maxRecDepth 20000 in
theorem gX6_way_X3_has : GoodIn wsX6_way (wsV RX6 100 RX3 yX3_has wsX3_has) := goodIn_app (goodIn_of _ (by decide +kernel)) ggX6_way_X3_has
set_option maxRecDepth 20000 in
theorem ggX6_way_X6_isItem : GoodIn wsX6_way wsX6_isItem := goodIn_r _ [14] (by decide +kernel) (by decide +kernel)
set_option maxRecDepth 20000 in
theorem gX6_way_X6_isItem : GoodIn wsX6_way (va_wsS RX6 73 yX6_isItem wsX6_isItem) := goodIn_app (goodIn_of _ (by decide +kernel)) ggX6_way_X6_isItem
set_option maxRecDepth 20000 in
theorem ggX6_way_X5_partAt : GoodIn wsX6_way wsX5_partAt := goodIn_r _ [19, 20, 21, 22, 23, 24, 6, 25, 26, 27, 28, 29, 30, 9, 10, 11, 31, 32, 33, 18, 34, 35, 4, 5, 7, 8, 36, 37, 38, 39, 40, 41, 42, 43, 44, 45, 46, 47, 48, 49, 63, 64, 55, 56, 57, 58, 59, 60, 61, 62] (by decide +kernel) (by decide +kernel)
set_option maxRecDepth 20000 in
theorem gX6_way_X5_partAt : GoodIn wsX6_way (wsV RX6 140 RX5 yX5_partAt wsX5_partAt) := goodIn_app (goodIn_of _ (by decide +kernel)) ggX6_way_X5_partAt
theorem dX6_way_0 : decode cX6_way 0 = .ok (.aload_n 0, 1) := by decide +kernel
theorem dX6_way_1 : decode cX6_way 1 = .ok (.getfield 26, 3) := by decide +kernel
theorem dX6_way_4 : decode cX6_way 4 = .ok (.iload_n 1, 1) := by decide +kernel
theorem dX6_way_5 : decode cX6_way 5 = .ok (.invokevirtual 100, 3) := by decide +kernel
theorem dX6_way_8 : decode cX6_way 8 = .ok (.ifCond .ne 7, 3) := by decide +kernel
theorem dX6_way_11 : decode cX6_way 11 = .ok (.sipush (-1001), 3) := by decide +kernel
theorem dX6_way_14 : decode cX6_way 14 = .ok (.ireturn, 1) := by decide +kernel
theorem dX6_way_15 : decode cX6_way 15 = .ok (.iload_n 2, 1) := by decide +kernel
theorem dX6_way_16 : decode cX6_way 16 = .ok (.invokestatic 73, 3) := by decide +kernel
theorem dX6_way_19 : decode cX6_way 19 = .ok (.ifCond .eq 16, 3) := by decide +kernel
theorem dX6_way_22 : decode cX6_way 22 = .ok (.aload_n 0, 1) := by decide +kernel
theorem dX6_way_23 : decode cX6_way 23 = .ok (.getfield 35, 3) := by decide +kernel
theorem dX6_way_26 : decode cX6_way 26 = .ok (.iload_n 1, 1) := by decide +kernel
theorem dX6_way_27 : decode cX6_way 27 = .ok (.iload_n 2, 1) := by decide +kernel
theorem dX6_way_28 : decode cX6_way 28 = .ok (.iload_n 3, 1) := by decide +kernel
theorem dX6_way_29 : decode cX6_way 29 = .ok (.invokevirtual 140, 3) := by decide +kernel
theorem dX6_way_32 : decode cX6_way 32 = .ok (.goto 6, 3) := by decide +kernel
theorem dX6_way_35 : decode cX6_way 35 = .ok (.sipush (-1002), 3) := by decide +kernel
theorem dX6_way_38 : decode cX6_way 38 = .ok (.ireturn, 1) := by decide +kernel
set_option maxRecDepth 20000 in
theorem ggX6_clash_X1_at : GoodIn wsX6_clash wsX1_at := goodIn_r _ [6, 7, 8, 9, 5, 10, 11, 12, 13, 14, 15, 16, 17, 18, 19, 20, 21, 22, 23, 24, 30, 31, 32, 33, 34, 35, 36, 37, 38, 39, 40, 41] (by decide +kernel) (by decide +kernel)
set_option maxRecDepth 20000 in
theorem gX6_clash_X1_at : GoodIn wsX6_clash (wsV RX6 144 RX1 yX1_at wsX1_at) := goodIn_app (goodIn_of _ (by decide +kernel)) ggX6_clash_X1_at
theorem dX6_clash_0 : decode cX6_clash 0 = .ok (.aload_n 0, 1) := by decide +kernel
theorem dX6_clash_1 : decode cX6_clash 1 = .ok (.getfield 42, 3) := by decide +kernel
theorem dX6_clash_4 : decode cX6_clash 4 = .ok (.iload_n 1, 1) := by decide +kernel
theorem dX6_clash_5 : decode cX6_clash 5 = .ok (.invokevirtual 144, 3) := by decide +kernel
theorem dX6_clash_8 : decode cX6_clash 8 = .ok (.istore_n 2, 1) := by decide +kernel
theorem dX6_clash_9 : decode cX6_clash 9 = .ok (.iload_n 2, 1) := by decide +kernel
theorem dX6_clash_10 : decode cX6_clash 10 = .ok (.iconst (-1), 1) := by decide +kernel
theorem dX6_clash_11 : decode cX6_clash 11 = .ok (.if_icmp .ne 9, 3) := by decide +kernel
theorem dX6_clash_14 : decode cX6_clash 14 = .ok (.sipush (-1001), 3) := by decide +kernel
theorem dX6_clash_17 : decode cX6_clash 17 = .ok (.goto 4, 3) := by decide +kernel
theorem dX6_clash_20 : decode cX6_clash 20 = .ok (.iload_n 2, 1) := by decide +kernel
theorem dX6_clash_21 : decode cX6_clash 21 = .ok (.ireturn, 1) := by decide +kernel
set_option maxRecDepth 20000 in
theorem ggX6_cause_X3_has : GoodIn wsX6_cause wsX3_has := goodIn_r _ [7, 8, 9, 10, 11, 65, 66, 67, 68, 69, 70, 71, 72] (by decide +kernel) (by decide +kernel)
set_option maxRecDepth 20000 in
theorem gX6_cause_X3_has : GoodIn wsX6_cause (wsV RX6 100 RX3 yX3_has wsX3_has) := goodIn_app (goodIn_of _ (by decide +kernel)) ggX6_cause_X3_has
set_option maxRecDepth 20000 in
theorem ggX6_cause_X1_fewestFor : GoodIn wsX6_cause wsX1_fewestFor := goodIn_r _ [16, 17, 18, 19, 20, 21, 15, 22, 23, 24, 25, 26, 27, 28, 29, 30, 31, 32, 9, 10, 11, 33, 34, 35, 36, 37, 38, 39, 40, 41, 6, 42, 43, 44, 45, 46, 47, 48, 49, 50, 51, 52, 53, 54, 55, 56, 57, 58, 59, 73, 74, 75, 76, 65, 66, 67, 68, 69, 70, 71, 72] (by decide +kernel) (by decide +kernel)
set_option maxRecDepth 20000 in
theorem gX6_cause_X1_fewestFor : GoodIn wsX6_cause (wsV RX6 147 RX1 yX1_fewestFor wsX1_fewestFor) := goodIn_app (goodIn_of _ (by decide +kernel)) ggX6_cause_X1_fewestFor
theorem dX6_cause_0 : decode cX6_cause 0 = .ok (.aload_n 0, 1) := by decide +kernel
theorem dX6_cause_1 : decode cX6_cause 1 = .ok (.getfield 26, 3) := by decide +kernel
theorem dX6_cause_4 : decode cX6_cause 4 = .ok (.iload_n 1, 1) := by decide +kernel
theorem dX6_cause_5 : decode cX6_cause 5 = .ok (.invokevirtual 100, 3) := by decide +kernel
theorem dX6_cause_8 : decode cX6_cause 8 = .ok (.ifCond .ne 7, 3) := by decide +kernel
theorem dX6_cause_11 : decode cX6_cause 11 = .ok (.sipush (-1001), 3) := by decide +kernel
theorem dX6_cause_14 : decode cX6_cause 14 = .ok (.ireturn, 1) := by decide +kernel
theorem dX6_cause_15 : decode cX6_cause 15 = .ok (.iload_n 2, 1) := by decide +kernel
theorem dX6_cause_16 : decode cX6_cause 16 = .ok (.ifCond .lt 25, 3) := by decide +kernel
theorem dX6_cause_19 : decode cX6_cause 19 = .ok (.iload_n 2, 1) := by decide +kernel
theorem dX6_cause_20 : decode cX6_cause 20 = .ok (.bipush 6, 2) := by decide +kernel
theorem dX6_cause_22 : decode cX6_cause 22 = .ok (.if_icmp .ge 19, 3) := by decide +kernel
theorem dX6_cause_25 : decode cX6_cause 25 = .ok (.aload_n 0, 1) := by decide +kernel
theorem dX6_cause_26 : decode cX6_cause 26 = .ok (.getfield 42, 3) := by decide +kernel
theorem dX6_cause_29 : decode cX6_cause 29 = .ok (.iload_n 1, 1) := by decide +kernel
theorem dX6_cause_30 : decode cX6_cause 30 = .ok (.bipush 6, 2) := by decide +kernel
theorem dX6_cause_32 : decode cX6_cause 32 = .ok (.imul, 1) := by decide +kernel
theorem dX6_cause_33 : decode cX6_cause 33 = .ok (.iload_n 2, 1) := by decide +kernel
theorem dX6_cause_34 : decode cX6_cause 34 = .ok (.iadd, 1) := by decide +kernel
theorem dX6_cause_35 : decode cX6_cause 35 = .ok (.invokevirtual 147, 3) := by decide +kernel
theorem dX6_cause_38 : decode cX6_cause 38 = .ok (.goto 6, 3) := by decide +kernel
theorem dX6_cause_41 : decode cX6_cause 41 = .ok (.sipush (-1002), 3) := by decide +kernel
theorem dX6_cause_44 : decode cX6_cause 44 = .ok (.ireturn, 1) := by decide +kernel
set_option maxRecDepth 20000 in
theorem ggX6_cure_X1_fewestToLeave : GoodIn wsX6_cure wsX1_fewestToLeave := goodIn_r _ [6, 7, 8, 9, 10, 11, 5, 12, 13, 14, 15, 16, 17, 18, 19, 20, 21, 22, 23, 24, 25, 26, 27, 28, 29, 30, 31, 32, 33, 34, 35, 36, 37, 38, 39, 40, 41, 42, 43, 44, 45, 46, 47, 48, 49, 50, 51, 52, 53, 59, 60, 61, 62, 63, 64, 65, 66, 67, 68, 69, 70] (by decide +kernel) (by decide +kernel)
set_option maxRecDepth 20000 in
theorem gX6_cure_X1_fewestToLeave : GoodIn wsX6_cure (wsV RX6 150 RX1 yX1_fewestToLeave wsX1_fewestToLeave) := goodIn_app (goodIn_of _ (by decide +kernel)) ggX6_cure_X1_fewestToLeave
theorem dX6_cure_0 : decode cX6_cure 0 = .ok (.aload_n 0, 1) := by decide +kernel
theorem dX6_cure_1 : decode cX6_cure 1 = .ok (.getfield 42, 3) := by decide +kernel
theorem dX6_cure_4 : decode cX6_cure 4 = .ok (.invokevirtual 150, 3) := by decide +kernel
theorem dX6_cure_7 : decode cX6_cure 7 = .ok (.ireturn, 1) := by decide +kernel
set_option maxRecDepth 20000 in
theorem ggX6_count_J6_bitCount_0f7a4 : GoodIn wsX6_count wsJ6_bitCount_0f7a4 := goodIn_r _ [8, 9, 10, 11] (by decide +kernel) (by decide +kernel)
set_option maxRecDepth 20000 in
theorem gX6_count_J6_bitCount_0f7a4 : GoodIn wsX6_count (va_wsS RX6 159 yJ6_bitCount_0f7a4 wsJ6_bitCount_0f7a4) := goodIn_app (goodIn_of _ (by decide +kernel)) ggX6_count_J6_bitCount_0f7a4
set_option maxRecDepth 20000 in
theorem ggX6_count_X3_joins : GoodIn wsX6_count wsX3_joins := goodIn_r _ [16, 17, 18, 19, 15, 20, 21, 22, 23, 24, 25, 62, 63, 64, 65, 66, 67, 68, 69] (by decide +kernel) (by decide +kernel)
set_option maxRecDepth 20000 in
theorem gX6_count_X3_joins : GoodIn wsX6_count (wsV RX6 164 RX3 yX3_joins wsX3_joins) := goodIn_app (goodIn_of _ (by decide +kernel)) ggX6_count_X3_joins
set_option maxRecDepth 20000 in
theorem ggX6_count_X1_now : GoodIn wsX6_count wsX1_now := goodIn_r _ [30, 31, 32, 33, 29, 34, 35, 36, 37, 38, 39, 40, 41, 70, 71, 72, 73, 62, 63, 64, 65, 66, 67, 68, 69] (by decide +kernel) (by decide +kernel)
set_option maxRecDepth 20000 in
theorem gX6_count_X1_now : GoodIn wsX6_count (wsV RX6 167 RX1 yX1_now wsX1_now) := goodIn_app (goodIn_of _ (by decide +kernel)) ggX6_count_X1_now
set_option maxRecDepth 20000 in
theorem ggX6_count_J13_bitCount_95d88 : GoodIn wsX6_count wsJ13_bitCount_95d88 := goodIn_r _ [45, 46, 47, 48] (by decide +kernel) (by decide +kernel)
set_option maxRecDepth 20000 in
theorem gX6_count_J13_bitCount_95d88 : GoodIn wsX6_count (va_wsS RX6 170 yJ13_bitCount_95d88 wsJ13_bitCount_95d88) := goodIn_app (goodIn_of _ (by decide +kernel)) ggX6_count_J13_bitCount_95d88
set_option maxRecDepth 20000 in
theorem ggX6_count_X1_partsNow : GoodIn wsX6_count wsX1_partsNow := goodIn_r _ [52, 31, 35, 36, 37, 38, 39, 40, 41, 70, 71, 72, 73, 62, 63, 64, 65, 66, 67, 68, 69] (by decide +kernel) (by decide +kernel)
set_option maxRecDepth 20000 in
theorem gX6_count_X1_partsNow : GoodIn wsX6_count (wsV RX6 174 RX1 yX1_partsNow wsX1_partsNow) := goodIn_app (goodIn_of _ (by decide +kernel)) ggX6_count_X1_partsNow
theorem dX6_count_0 : decode cX6_count 0 = .ok (.iload_n 1, 1) := by decide +kernel
theorem dX6_count_1 : decode cX6_count 1 = .ok (.tableswitch 117 0 7 #[47, 55, 63, 74, 82, 90, 101, 109], 47) := by decide +kernel
theorem dX6_count_48 : decode cX6_count 48 = .ok (.aload_n 0, 1) := by decide +kernel
theorem dX6_count_49 : decode cX6_count 49 = .ok (.getfield 12, 3) := by decide +kernel
theorem dX6_count_52 : decode cX6_count 52 = .ok (.getfield 46, 3) := by decide +kernel
theorem dX6_count_55 : decode cX6_count 55 = .ok (.ireturn, 1) := by decide +kernel
theorem dX6_count_56 : decode cX6_count 56 = .ok (.aload_n 0, 1) := by decide +kernel
theorem dX6_count_57 : decode cX6_count 57 = .ok (.getfield 19, 3) := by decide +kernel
theorem dX6_count_60 : decode cX6_count 60 = .ok (.getfield 153, 3) := by decide +kernel
theorem dX6_count_63 : decode cX6_count 63 = .ok (.ireturn, 1) := by decide +kernel
theorem dX6_count_64 : decode cX6_count 64 = .ok (.aload_n 0, 1) := by decide +kernel
theorem dX6_count_65 : decode cX6_count 65 = .ok (.getfield 26, 3) := by decide +kernel
theorem dX6_count_68 : decode cX6_count 68 = .ok (.getfield 156, 3) := by decide +kernel
theorem dX6_count_71 : decode cX6_count 71 = .ok (.invokestatic 159, 3) := by decide +kernel
theorem dX6_count_74 : decode cX6_count 74 = .ok (.ireturn, 1) := by decide +kernel
theorem dX6_count_75 : decode cX6_count 75 = .ok (.aload_n 0, 1) := by decide +kernel
theorem dX6_count_76 : decode cX6_count 76 = .ok (.getfield 26, 3) := by decide +kernel
theorem dX6_count_79 : decode cX6_count 79 = .ok (.getfield 156, 3) := by decide +kernel
theorem dX6_count_82 : decode cX6_count 82 = .ok (.ireturn, 1) := by decide +kernel
theorem dX6_count_83 : decode cX6_count 83 = .ok (.aload_n 0, 1) := by decide +kernel
theorem dX6_count_84 : decode cX6_count 84 = .ok (.getfield 26, 3) := by decide +kernel
theorem dX6_count_87 : decode cX6_count 87 = .ok (.invokevirtual 164, 3) := by decide +kernel
theorem dX6_count_90 : decode cX6_count 90 = .ok (.ireturn, 1) := by decide +kernel
theorem dX6_count_91 : decode cX6_count 91 = .ok (.aload_n 0, 1) := by decide +kernel
theorem dX6_count_92 : decode cX6_count 92 = .ok (.getfield 42, 3) := by decide +kernel
theorem dX6_count_95 : decode cX6_count 95 = .ok (.invokevirtual 167, 3) := by decide +kernel
theorem dX6_count_98 : decode cX6_count 98 = .ok (.invokestatic 170, 3) := by decide +kernel
theorem dX6_count_101 : decode cX6_count 101 = .ok (.ireturn, 1) := by decide +kernel
theorem dX6_count_102 : decode cX6_count 102 = .ok (.aload_n 0, 1) := by decide +kernel
theorem dX6_count_103 : decode cX6_count 103 = .ok (.getfield 42, 3) := by decide +kernel
theorem dX6_count_106 : decode cX6_count 106 = .ok (.invokevirtual 174, 3) := by decide +kernel
theorem dX6_count_109 : decode cX6_count 109 = .ok (.ireturn, 1) := by decide +kernel
theorem dX6_count_110 : decode cX6_count 110 = .ok (.aload_n 0, 1) := by decide +kernel
theorem dX6_count_111 : decode cX6_count 111 = .ok (.getfield 26, 3) := by decide +kernel
theorem dX6_count_114 : decode cX6_count 114 = .ok (.getfield 177, 3) := by decide +kernel
theorem dX6_count_117 : decode cX6_count 117 = .ok (.ireturn, 1) := by decide +kernel
theorem dX6_count_118 : decode cX6_count 118 = .ok (.sipush (-1002), 3) := by decide +kernel
theorem dX6_count_121 : decode cX6_count 121 = .ok (.ireturn, 1) := by decide +kernel
set_option maxRecDepth 20000 in
theorem ggX6_digest_X6_withTerms : GoodIn wsX6_digest wsX6_withTerms := goodIn_r _ [8, 9, 10, 11, 12, 7, 13, 14, 15, 16, 17, 18, 19, 20, 21, 22, 23, 24, 25, 26, 27, 28, 29, 30, 31, 32, 173, 174, 175, 176, 177, 180, 181] (by decide +kernel) (by decide +kernel)
set_option maxRecDepth 20000 in
theorem gX6_digest_X6_withTerms : GoodIn wsX6_digest (wsV RX6 182 RX6 yX6_withTerms wsX6_withTerms) := goodIn_app (goodIn_of _ (by decide +kernel)) ggX6_digest_X6_withTerms
set_option maxRecDepth 20000 in
theorem ggX6_digest_X3_has : GoodIn wsX6_digest wsX3_has := goodIn_r _ [37, 38, 27, 7, 28, 182, 183, 184, 185, 186, 187, 188, 189] (by decide +kernel) (by decide +kernel)
set_option maxRecDepth 20000 in
theorem gX6_digest_X3_has : GoodIn wsX6_digest (wsV RX6 100 RX3 yX3_has wsX3_has) := goodIn_app (goodIn_of _ (by decide +kernel)) ggX6_digest_X3_has
set_option maxRecDepth 20000 in
theorem ggX6_digest_X6_withPart : GoodIn wsX6_digest wsX6_withPart := goodIn_r _ [42, 2, 29, 30, 7, 31, 32, 43, 44, 45, 46, 33, 34, 35, 36, 37, 38, 27, 28, 47, 48, 25, 49, 50, 51, 52, 53, 54, 55, 56, 57, 58, 59, 60, 61, 62, 63, 64, 65, 66, 67, 68, 69, 70, 71, 72, 73, 74, 75, 76, 77, 78, 79, 80, 81, 82, 83, 20, 21, 22, 84, 85, 86, 87, 88, 89, 24, 26, 90, 91, 92, 93, 94, 173, 174, 175, 176, 177, 182, 183, 184, 185, 186, 187, 188, 189] (by decide +kernel) (by decide +kernel)
set_option maxRecDepth 20000 in
theorem gX6_digest_X6_withPart : GoodIn wsX6_digest (wsV RX6 186 RX6 yX6_withPart wsX6_withPart) := goodIn_app (goodIn_of _ (by decide +kernel)) ggX6_digest_X6_withPart
set_option maxRecDepth 20000 in
theorem ggX6_digest_X6_withClashes : GoodIn wsX6_digest wsX6_withClashes := goodIn_r _ [98, 99, 100, 101, 102, 103, 104, 105, 106, 107, 108, 109, 57, 25, 58, 50, 51, 52, 110, 27, 7, 28, 29, 30, 31, 32, 111, 112, 113, 114, 115, 116, 117, 118, 119, 120, 121, 122, 123, 124, 125, 36, 126, 127, 128, 129, 130, 131, 132, 133, 134, 135, 136, 137, 138, 139, 140, 141, 142, 143, 173, 174, 175, 176, 177, 190, 191, 192, 193, 182, 183, 184, 185, 186, 187, 188, 189] (by decide +kernel) (by decide +kernel)
set_option maxRecDepth 20000 in
theorem gX6_digest_X6_withClashes : GoodIn wsX6_digest (wsV RX6 190 RX6 yX6_withClashes wsX6_withClashes) := goodIn_app (goodIn_of _ (by decide +kernel)) ggX6_digest_X6_withClashes
set_option maxRecDepth 20000 in
theorem ggX6_digest_X6_cure : GoodIn wsX6_digest wsX6_cure := goodIn_r _ [147, 99, 148, 149, 150, 103, 151, 105, 115, 116, 101, 102, 104, 106, 107, 108, 109, 57, 25, 58, 50, 51, 52, 117, 118, 119, 120, 121, 122, 123, 124, 125, 36, 126, 127, 27, 7, 28, 128, 129, 130, 131, 132, 133, 134, 135, 136, 137, 138, 139, 140, 141, 142, 143, 173, 174, 175, 176, 177, 190, 191, 192, 193, 182, 183, 184, 185, 186, 187, 188, 189] (by decide +kernel) (by decide +kernel)
set_option maxRecDepth 20000 in
theorem gX6_digest_X6_cure : GoodIn wsX6_digest (wsV RX6 193 RX6 yX6_cure wsX6_cure) := goodIn_app (goodIn_of _ (by decide +kernel)) ggX6_digest_X6_cure
set_option maxRecDepth 20000 in
theorem ggX6_digest_X6_mix : GoodIn wsX6_digest wsX6_mix := goodIn_r _ [31, 32] (by decide +kernel) (by decide +kernel)
set_option maxRecDepth 20000 in
theorem gX6_digest_X6_mix : GoodIn wsX6_digest (va_wsS RX6 196 yX6_mix wsX6_mix) := goodIn_app (goodIn_of _ (by decide +kernel)) ggX6_digest_X6_mix
set_option maxRecDepth 20000 in
theorem ggX6_digest_X6_count : GoodIn wsX6_digest wsX6_count := goodIn_r _ [155, 3, 9, 2, 99, 156, 138, 139, 140, 141, 142, 143, 157, 158, 159, 36, 160, 161, 73, 74, 75, 67, 68, 69, 70, 71, 100, 101, 102, 103, 104, 105, 106, 107, 108, 109, 57, 25, 58, 50, 51, 52, 162, 163, 164, 165, 166, 167, 168, 169, 170, 171, 172, 173, 174, 175, 176, 177, 178, 179, 180, 181, 182, 183, 184, 185, 186, 187, 188, 189, 190, 191, 192, 193] (by decide +kernel) (by decide +kernel)
set_option maxRecDepth 20000 in
theorem gX6_digest_X6_count : GoodIn wsX6_digest (wsV RX6 203 RX6 yX6_count wsX6_count) := goodIn_app (goodIn_of _ (by decide +kernel)) ggX6_digest_X6_count
theorem dX6_digest_0 : decode cX6_digest 0 = .ok (.aload_n 0, 1) := by decide +kernel
theorem dX6_digest_1 : decode cX6_digest 1 = .ok (.ldc2_w 180, 3) := by decide +kernel
theorem dX6_digest_4 : decode cX6_digest 4 = .ok (.invokevirtual 182, 3) := by decide +kernel
theorem dX6_digest_7 : decode cX6_digest 7 = .ok (.lstore_n 1, 1) := by decide +kernel
theorem dX6_digest_8 : decode cX6_digest 8 = .ok (.iconst 0, 1) := by decide +kernel
theorem dX6_digest_9 : decode cX6_digest 9 = .ok (.istore_n 3, 1) := by decide +kernel
theorem dX6_digest_10 : decode cX6_digest 10 = .ok (.iload_n 3, 1) := by decide +kernel
theorem dX6_digest_11 : decode cX6_digest 11 = .ok (.bipush 8, 2) := by decide +kernel
theorem dX6_digest_13 : decode cX6_digest 13 = .ok (.if_icmp .ge 27, 3) := by decide +kernel
theorem dX6_digest_16 : decode cX6_digest 16 = .ok (.aload_n 0, 1) := by decide +kernel
theorem dX6_digest_17 : decode cX6_digest 17 = .ok (.getfield 26, 3) := by decide +kernel
theorem dX6_digest_20 : decode cX6_digest 20 = .ok (.iload_n 3, 1) := by decide +kernel
theorem dX6_digest_21 : decode cX6_digest 21 = .ok (.invokevirtual 100, 3) := by decide +kernel
theorem dX6_digest_24 : decode cX6_digest 24 = .ok (.ifCond .eq 10, 3) := by decide +kernel
theorem dX6_digest_27 : decode cX6_digest 27 = .ok (.aload_n 0, 1) := by decide +kernel
theorem dX6_digest_28 : decode cX6_digest 28 = .ok (.lload_n 1, 1) := by decide +kernel
theorem dX6_digest_29 : decode cX6_digest 29 = .ok (.iload_n 3, 1) := by decide +kernel
theorem dX6_digest_30 : decode cX6_digest 30 = .ok (.invokevirtual 186, 3) := by decide +kernel
theorem dX6_digest_33 : decode cX6_digest 33 = .ok (.lstore_n 1, 1) := by decide +kernel
theorem dX6_digest_34 : decode cX6_digest 34 = .ok (.iinc 3 1, 3) := by decide +kernel
theorem dX6_digest_37 : decode cX6_digest 37 = .ok (.goto (-27), 3) := by decide +kernel
theorem dX6_digest_40 : decode cX6_digest 40 = .ok (.aload_n 0, 1) := by decide +kernel
theorem dX6_digest_41 : decode cX6_digest 41 = .ok (.lload_n 1, 1) := by decide +kernel
theorem dX6_digest_42 : decode cX6_digest 42 = .ok (.invokevirtual 190, 3) := by decide +kernel
theorem dX6_digest_45 : decode cX6_digest 45 = .ok (.lstore_n 1, 1) := by decide +kernel
theorem dX6_digest_46 : decode cX6_digest 46 = .ok (.lload_n 1, 1) := by decide +kernel
theorem dX6_digest_47 : decode cX6_digest 47 = .ok (.aload_n 0, 1) := by decide +kernel
theorem dX6_digest_48 : decode cX6_digest 48 = .ok (.invokevirtual 193, 3) := by decide +kernel
theorem dX6_digest_51 : decode cX6_digest 51 = .ok (.i2l, 1) := by decide +kernel
theorem dX6_digest_52 : decode cX6_digest 52 = .ok (.invokestatic 196, 3) := by decide +kernel
theorem dX6_digest_55 : decode cX6_digest 55 = .ok (.lstore_n 1, 1) := by decide +kernel
theorem dX6_digest_56 : decode cX6_digest 56 = .ok (.iconst 0, 1) := by decide +kernel
theorem dX6_digest_57 : decode cX6_digest 57 = .ok (.istore_n 3, 1) := by decide +kernel
theorem dX6_digest_58 : decode cX6_digest 58 = .ok (.iload_n 3, 1) := by decide +kernel
theorem dX6_digest_59 : decode cX6_digest 59 = .ok (.aload_n 0, 1) := by decide +kernel
theorem dX6_digest_60 : decode cX6_digest 60 = .ok (.getfield 12, 3) := by decide +kernel
theorem dX6_digest_63 : decode cX6_digest 63 = .ok (.getfield 46, 3) := by decide +kernel
theorem dX6_digest_66 : decode cX6_digest 66 = .ok (.if_icmp .ge 24, 3) := by decide +kernel
theorem dX6_digest_69 : decode cX6_digest 69 = .ok (.lload_n 1, 1) := by decide +kernel
theorem dX6_digest_70 : decode cX6_digest 70 = .ok (.aload_n 0, 1) := by decide +kernel
theorem dX6_digest_71 : decode cX6_digest 71 = .ok (.getfield 12, 3) := by decide +kernel
theorem dX6_digest_74 : decode cX6_digest 74 = .ok (.getfield 200, 3) := by decide +kernel
theorem dX6_digest_77 : decode cX6_digest 77 = .ok (.iload_n 3, 1) := by decide +kernel
theorem dX6_digest_78 : decode cX6_digest 78 = .ok (.iaload, 1) := by decide +kernel
theorem dX6_digest_79 : decode cX6_digest 79 = .ok (.i2l, 1) := by decide +kernel
theorem dX6_digest_80 : decode cX6_digest 80 = .ok (.invokestatic 196, 3) := by decide +kernel
theorem dX6_digest_83 : decode cX6_digest 83 = .ok (.lstore_n 1, 1) := by decide +kernel
theorem dX6_digest_84 : decode cX6_digest 84 = .ok (.iinc 3 1, 3) := by decide +kernel
theorem dX6_digest_87 : decode cX6_digest 87 = .ok (.goto (-29), 3) := by decide +kernel
theorem dX6_digest_90 : decode cX6_digest 90 = .ok (.iconst 0, 1) := by decide +kernel
theorem dX6_digest_91 : decode cX6_digest 91 = .ok (.istore_n 3, 1) := by decide +kernel
theorem dX6_digest_92 : decode cX6_digest 92 = .ok (.iload_n 3, 1) := by decide +kernel
theorem dX6_digest_93 : decode cX6_digest 93 = .ok (.bipush 7, 2) := by decide +kernel
theorem dX6_digest_95 : decode cX6_digest 95 = .ok (.if_icmp .gt 20, 3) := by decide +kernel
theorem dX6_digest_98 : decode cX6_digest 98 = .ok (.lload_n 1, 1) := by decide +kernel
theorem dX6_digest_99 : decode cX6_digest 99 = .ok (.aload_n 0, 1) := by decide +kernel
theorem dX6_digest_100 : decode cX6_digest 100 = .ok (.iload_n 3, 1) := by decide +kernel
theorem dX6_digest_101 : decode cX6_digest 101 = .ok (.invokevirtual 203, 3) := by decide +kernel
theorem dX6_digest_104 : decode cX6_digest 104 = .ok (.i2l, 1) := by decide +kernel
theorem dX6_digest_105 : decode cX6_digest 105 = .ok (.invokestatic 196, 3) := by decide +kernel
theorem dX6_digest_108 : decode cX6_digest 108 = .ok (.lstore_n 1, 1) := by decide +kernel
theorem dX6_digest_109 : decode cX6_digest 109 = .ok (.iinc 3 1, 3) := by decide +kernel
theorem dX6_digest_112 : decode cX6_digest 112 = .ok (.goto (-20), 3) := by decide +kernel
theorem dX6_digest_115 : decode cX6_digest 115 = .ok (.lload_n 1, 1) := by decide +kernel
theorem dX6_digest_116 : decode cX6_digest 116 = .ok (.lreturn, 1) := by decide +kernel
set_option maxRecDepth 20000 in
theorem ggX6_withTerms_X6_reach : GoodIn wsX6_withTerms wsX6_reach := goodIn_r _ [6, 1, 7, 8, 9, 10, 11, 12, 13, 14, 5, 15, 16, 17, 18, 19, 20, 21, 26, 27, 28, 29, 30, 31, 32] (by decide +kernel) (by decide +kernel)
set_option maxRecDepth 20000 in
theorem gX6_withTerms_X6_reach : GoodIn wsX6_withTerms (wsV RX6 206 RX6 yX6_reach wsX6_reach) := goodIn_app (goodIn_of _ (by decide +kernel)) ggX6_withTerms_X6_reach
set_option maxRecDepth 20000 in
theorem ggX6_withTerms_X6_mix : GoodIn wsX6_withTerms wsX6_mix := goodIn_r _ [24, 25] (by decide +kernel) (by decide +kernel)
set_option maxRecDepth 20000 in
theorem gX6_withTerms_X6_mix : GoodIn wsX6_withTerms (va_wsS RX6 196 yX6_mix wsX6_mix) := goodIn_app (goodIn_of _ (by decide +kernel)) ggX6_withTerms_X6_mix
theorem dX6_withTerms_0 : decode cX6_withTerms 0 = .ok (.lload_n 1, 1) := by decide +kernel
theorem dX6_withTerms_1 : decode cX6_withTerms 1 = .ok (.lstore_n 3, 1) := by decide +kernel
theorem dX6_withTerms_2 : decode cX6_withTerms 2 = .ok (.iconst 0, 1) := by decide +kernel
theorem dX6_withTerms_3 : decode cX6_withTerms 3 = .ok (.istore 5, 2) := by decide +kernel
theorem dX6_withTerms_5 : decode cX6_withTerms 5 = .ok (.iload 5, 2) := by decide +kernel
theorem dX6_withTerms_7 : decode cX6_withTerms 7 = .ok (.aload_n 0, 1) := by decide +kernel
theorem dX6_withTerms_8 : decode cX6_withTerms 8 = .ok (.getfield 19, 3) := by decide +kernel
theorem dX6_withTerms_11 : decode cX6_withTerms 11 = .ok (.getfield 153, 3) := by decide +kernel
theorem dX6_withTerms_14 : decode cX6_withTerms 14 = .ok (.if_icmp .ge 39, 3) := by decide +kernel
theorem dX6_withTerms_17 : decode cX6_withTerms 17 = .ok (.iconst 0, 1) := by decide +kernel
theorem dX6_withTerms_18 : decode cX6_withTerms 18 = .ok (.istore 6, 2) := by decide +kernel
theorem dX6_withTerms_20 : decode cX6_withTerms 20 = .ok (.iload 6, 2) := by decide +kernel
theorem dX6_withTerms_22 : decode cX6_withTerms 22 = .ok (.bipush 12, 2) := by decide +kernel
theorem dX6_withTerms_24 : decode cX6_withTerms 24 = .ok (.if_icmp .ge 23, 3) := by decide +kernel
theorem dX6_withTerms_27 : decode cX6_withTerms 27 = .ok (.lload_n 3, 1) := by decide +kernel
theorem dX6_withTerms_28 : decode cX6_withTerms 28 = .ok (.aload_n 0, 1) := by decide +kernel
theorem dX6_withTerms_29 : decode cX6_withTerms 29 = .ok (.iload 5, 2) := by decide +kernel
theorem dX6_withTerms_31 : decode cX6_withTerms 31 = .ok (.iload 6, 2) := by decide +kernel
theorem dX6_withTerms_33 : decode cX6_withTerms 33 = .ok (.invokevirtual 206, 3) := by decide +kernel
theorem dX6_withTerms_36 : decode cX6_withTerms 36 = .ok (.i2l, 1) := by decide +kernel
theorem dX6_withTerms_37 : decode cX6_withTerms 37 = .ok (.invokestatic 196, 3) := by decide +kernel
theorem dX6_withTerms_40 : decode cX6_withTerms 40 = .ok (.lstore_n 3, 1) := by decide +kernel
theorem dX6_withTerms_41 : decode cX6_withTerms 41 = .ok (.iinc 6 1, 3) := by decide +kernel
theorem dX6_withTerms_44 : decode cX6_withTerms 44 = .ok (.goto (-24), 3) := by decide +kernel
theorem dX6_withTerms_47 : decode cX6_withTerms 47 = .ok (.iinc 5 1, 3) := by decide +kernel
theorem dX6_withTerms_50 : decode cX6_withTerms 50 = .ok (.goto (-45), 3) := by decide +kernel
theorem dX6_withTerms_53 : decode cX6_withTerms 53 = .ok (.lload_n 3, 1) := by decide +kernel
theorem dX6_withTerms_54 : decode cX6_withTerms 54 = .ok (.lreturn, 1) := by decide +kernel
set_option maxRecDepth 20000 in
theorem ggX6_withPart_X6_mix : GoodIn wsX6_withPart wsX6_mix := goodIn_r _ [5, 6] (by decide +kernel) (by decide +kernel)
set_option maxRecDepth 20000 in
theorem gX6_withPart_X6_mix : GoodIn wsX6_withPart (va_wsS RX6 196 yX6_mix wsX6_mix) := goodIn_app (goodIn_of _ (by decide +kernel)) ggX6_withPart_X6_mix
set_option maxRecDepth 20000 in
theorem ggX6_withPart_X6_of : GoodIn wsX6_withPart wsX6_of := goodIn_r _ [10, 1, 11, 12, 13, 14, 15, 16, 17, 4, 18, 19, 20, 21, 22, 23, 24, 25, 26, 27, 28, 29, 30, 31, 32, 33, 34, 35, 36, 37, 38, 39, 40, 41, 42, 43, 44, 45, 46, 47, 48, 49, 50, 51, 52, 73, 74, 75, 76, 77, 78, 79, 80, 81, 82, 83, 84, 85] (by decide +kernel) (by decide +kernel)
set_option maxRecDepth 20000 in
theorem gX6_withPart_X6_of : GoodIn wsX6_withPart (wsV RX6 209 RX6 yX6_of wsX6_of) := goodIn_app (goodIn_of _ (by decide +kernel)) ggX6_withPart_X6_of
set_option maxRecDepth 20000 in
theorem ggX6_withPart_X6_held : GoodIn wsX6_withPart wsX6_held := goodIn_r _ [56, 1, 11, 12, 13, 14, 15, 16, 17, 4, 18, 57, 58, 59, 60, 61, 62, 63, 64, 65, 66, 21, 67, 73, 74, 75, 76, 77, 78, 79, 80, 81, 82, 83, 84, 85] (by decide +kernel) (by decide +kernel)
set_option maxRecDepth 20000 in
theorem gX6_withPart_X6_held : GoodIn wsX6_withPart (wsV RX6 212 RX6 yX6_held wsX6_held) := goodIn_app (goodIn_of _ (by decide +kernel)) ggX6_withPart_X6_held
set_option maxRecDepth 20000 in
theorem ggX6_withPart_X3_has : GoodIn wsX6_withPart wsX3_has := goodIn_r _ [15, 16, 17, 4, 18, 78, 79, 80, 81, 82, 83, 84, 85] (by decide +kernel) (by decide +kernel)
set_option maxRecDepth 20000 in
theorem gX6_withPart_X3_has : GoodIn wsX6_withPart (wsV RX6 100 RX3 yX3_has wsX3_has) := goodIn_app (goodIn_of _ (by decide +kernel)) ggX6_withPart_X3_has
set_option maxRecDepth 20000 in
theorem ggX6_withPart_X6_kind : GoodIn wsX6_withPart wsX6_kind := goodIn_r _ [71, 1, 11, 12, 13, 14, 15, 16, 17, 4, 18, 72, 41, 42, 43, 44, 73, 74, 75, 76, 77, 78, 79, 80, 81, 82, 83, 84, 85] (by decide +kernel) (by decide +kernel)
set_option maxRecDepth 20000 in
theorem gX6_withPart_X6_kind : GoodIn wsX6_withPart (wsV RX6 215 RX6 yX6_kind wsX6_kind) := goodIn_app (goodIn_of _ (by decide +kernel)) ggX6_withPart_X6_kind
theorem dX6_withPart_0 : decode cX6_withPart 0 = .ok (.lload_n 1, 1) := by decide +kernel
theorem dX6_withPart_1 : decode cX6_withPart 1 = .ok (.iload_n 3, 1) := by decide +kernel
theorem dX6_withPart_2 : decode cX6_withPart 2 = .ok (.i2l, 1) := by decide +kernel
theorem dX6_withPart_3 : decode cX6_withPart 3 = .ok (.invokestatic 196, 3) := by decide +kernel
theorem dX6_withPart_6 : decode cX6_withPart 6 = .ok (.lstore 4, 2) := by decide +kernel
theorem dX6_withPart_8 : decode cX6_withPart 8 = .ok (.iconst 0, 1) := by decide +kernel
theorem dX6_withPart_9 : decode cX6_withPart 9 = .ok (.istore 6, 2) := by decide +kernel
theorem dX6_withPart_11 : decode cX6_withPart 11 = .ok (.iload 6, 2) := by decide +kernel
theorem dX6_withPart_13 : decode cX6_withPart 13 = .ok (.bipush 6, 2) := by decide +kernel
theorem dX6_withPart_15 : decode cX6_withPart 15 = .ok (.if_icmp .gt 24, 3) := by decide +kernel
theorem dX6_withPart_18 : decode cX6_withPart 18 = .ok (.lload 4, 2) := by decide +kernel
theorem dX6_withPart_20 : decode cX6_withPart 20 = .ok (.aload_n 0, 1) := by decide +kernel
theorem dX6_withPart_21 : decode cX6_withPart 21 = .ok (.iload_n 3, 1) := by decide +kernel
theorem dX6_withPart_22 : decode cX6_withPart 22 = .ok (.iload 6, 2) := by decide +kernel
theorem dX6_withPart_24 : decode cX6_withPart 24 = .ok (.invokevirtual 209, 3) := by decide +kernel
theorem dX6_withPart_27 : decode cX6_withPart 27 = .ok (.i2l, 1) := by decide +kernel
theorem dX6_withPart_28 : decode cX6_withPart 28 = .ok (.invokestatic 196, 3) := by decide +kernel
theorem dX6_withPart_31 : decode cX6_withPart 31 = .ok (.lstore 4, 2) := by decide +kernel
theorem dX6_withPart_33 : decode cX6_withPart 33 = .ok (.iinc 6 1, 3) := by decide +kernel
theorem dX6_withPart_36 : decode cX6_withPart 36 = .ok (.goto (-25), 3) := by decide +kernel
theorem dX6_withPart_39 : decode cX6_withPart 39 = .ok (.iconst 0, 1) := by decide +kernel
theorem dX6_withPart_40 : decode cX6_withPart 40 = .ok (.istore 6, 2) := by decide +kernel
theorem dX6_withPart_42 : decode cX6_withPart 42 = .ok (.iload 6, 2) := by decide +kernel
theorem dX6_withPart_44 : decode cX6_withPart 44 = .ok (.bipush 12, 2) := by decide +kernel
theorem dX6_withPart_46 : decode cX6_withPart 46 = .ok (.if_icmp .ge 24, 3) := by decide +kernel
theorem dX6_withPart_49 : decode cX6_withPart 49 = .ok (.lload 4, 2) := by decide +kernel
theorem dX6_withPart_51 : decode cX6_withPart 51 = .ok (.aload_n 0, 1) := by decide +kernel
theorem dX6_withPart_52 : decode cX6_withPart 52 = .ok (.iload_n 3, 1) := by decide +kernel
theorem dX6_withPart_53 : decode cX6_withPart 53 = .ok (.iload 6, 2) := by decide +kernel
theorem dX6_withPart_55 : decode cX6_withPart 55 = .ok (.invokevirtual 212, 3) := by decide +kernel
theorem dX6_withPart_58 : decode cX6_withPart 58 = .ok (.i2l, 1) := by decide +kernel
theorem dX6_withPart_59 : decode cX6_withPart 59 = .ok (.invokestatic 196, 3) := by decide +kernel
theorem dX6_withPart_62 : decode cX6_withPart 62 = .ok (.lstore 4, 2) := by decide +kernel
theorem dX6_withPart_64 : decode cX6_withPart 64 = .ok (.iinc 6 1, 3) := by decide +kernel
theorem dX6_withPart_67 : decode cX6_withPart 67 = .ok (.goto (-25), 3) := by decide +kernel
theorem dX6_withPart_70 : decode cX6_withPart 70 = .ok (.iconst 0, 1) := by decide +kernel
theorem dX6_withPart_71 : decode cX6_withPart 71 = .ok (.istore 6, 2) := by decide +kernel
theorem dX6_withPart_73 : decode cX6_withPart 73 = .ok (.iload 6, 2) := by decide +kernel
theorem dX6_withPart_75 : decode cX6_withPart 75 = .ok (.bipush 8, 2) := by decide +kernel
theorem dX6_withPart_77 : decode cX6_withPart 77 = .ok (.if_icmp .ge 36, 3) := by decide +kernel
theorem dX6_withPart_80 : decode cX6_withPart 80 = .ok (.aload_n 0, 1) := by decide +kernel
theorem dX6_withPart_81 : decode cX6_withPart 81 = .ok (.getfield 26, 3) := by decide +kernel
theorem dX6_withPart_84 : decode cX6_withPart 84 = .ok (.iload 6, 2) := by decide +kernel
theorem dX6_withPart_86 : decode cX6_withPart 86 = .ok (.invokevirtual 100, 3) := by decide +kernel
theorem dX6_withPart_89 : decode cX6_withPart 89 = .ok (.ifCond .eq 18, 3) := by decide +kernel
theorem dX6_withPart_92 : decode cX6_withPart 92 = .ok (.lload 4, 2) := by decide +kernel
theorem dX6_withPart_94 : decode cX6_withPart 94 = .ok (.aload_n 0, 1) := by decide +kernel
theorem dX6_withPart_95 : decode cX6_withPart 95 = .ok (.iload_n 3, 1) := by decide +kernel
theorem dX6_withPart_96 : decode cX6_withPart 96 = .ok (.iload 6, 2) := by decide +kernel
theorem dX6_withPart_98 : decode cX6_withPart 98 = .ok (.invokevirtual 215, 3) := by decide +kernel
theorem dX6_withPart_101 : decode cX6_withPart 101 = .ok (.i2l, 1) := by decide +kernel
theorem dX6_withPart_102 : decode cX6_withPart 102 = .ok (.invokestatic 196, 3) := by decide +kernel
theorem dX6_withPart_105 : decode cX6_withPart 105 = .ok (.lstore 4, 2) := by decide +kernel
theorem dX6_withPart_107 : decode cX6_withPart 107 = .ok (.iinc 6 1, 3) := by decide +kernel
theorem dX6_withPart_110 : decode cX6_withPart 110 = .ok (.goto (-37), 3) := by decide +kernel
theorem dX6_withPart_113 : decode cX6_withPart 113 = .ok (.lload 4, 2) := by decide +kernel
theorem dX6_withPart_115 : decode cX6_withPart 115 = .ok (.lreturn, 1) := by decide +kernel
set_option maxRecDepth 20000 in
theorem ggX6_withClashes_X1_now : GoodIn wsX6_withClashes wsX1_now := goodIn_r _ [6, 7, 8, 9, 5, 10, 11, 12, 13, 14, 15, 16, 17, 65, 66, 67, 68, 69, 70, 71, 72, 73, 74, 75, 76] (by decide +kernel) (by decide +kernel)
set_option maxRecDepth 20000 in
theorem gX6_withClashes_X1_now : GoodIn wsX6_withClashes (wsV RX6 167 RX1 yX1_now wsX1_now) := goodIn_app (goodIn_of _ (by decide +kernel)) ggX6_withClashes_X1_now
set_option maxRecDepth 20000 in
theorem ggX6_withClashes_X6_isSet : GoodIn wsX6_withClashes wsX6_isSet := goodIn_r _ [21] (by decide +kernel) (by decide +kernel)
set_option maxRecDepth 20000 in
theorem gX6_withClashes_X6_isSet : GoodIn wsX6_withClashes (va_wsS RX6 218 yX6_isSet wsX6_isSet) := goodIn_app (goodIn_of _ (by decide +kernel)) ggX6_withClashes_X6_isSet
set_option maxRecDepth 20000 in
theorem ggX6_withClashes_X6_mix : GoodIn wsX6_withClashes wsX6_mix := goodIn_r _ [24, 25] (by decide +kernel) (by decide +kernel)
set_option maxRecDepth 20000 in
theorem gX6_withClashes_X6_mix : GoodIn wsX6_withClashes (va_wsS RX6 196 yX6_mix wsX6_mix) := goodIn_app (goodIn_of _ (by decide +kernel)) ggX6_withClashes_X6_mix
set_option maxRecDepth 20000 in
theorem ggX6_withClashes_X1_fewestFor : GoodIn wsX6_withClashes wsX1_fewestFor := goodIn_r _ [29, 7, 30, 31, 3, 4, 5, 6, 8, 9, 10, 11, 12, 13, 14, 15, 16, 17, 19, 20, 21, 32, 33, 34, 35, 36, 37, 38, 39, 40, 41, 42, 43, 44, 45, 46, 47, 48, 49, 50, 51, 52, 53, 54, 55, 56, 57, 58, 59, 65, 66, 67, 68, 69, 70, 71, 72, 73, 74, 75, 76] (by decide +kernel) (by decide +kernel)
set_option maxRecDepth 20000 in
theorem gX6_withClashes_X1_fewestFor : GoodIn wsX6_withClashes (wsV RX6 147 RX1 yX1_fewestFor wsX1_fewestFor) := goodIn_app (goodIn_of _ (by decide +kernel)) ggX6_withClashes_X1_fewestFor
theorem dX6_withClashes_0 : decode cX6_withClashes 0 = .ok (.lload_n 1, 1) := by decide +kernel
theorem dX6_withClashes_1 : decode cX6_withClashes 1 = .ok (.lstore_n 3, 1) := by decide +kernel
theorem dX6_withClashes_2 : decode cX6_withClashes 2 = .ok (.aload_n 0, 1) := by decide +kernel
theorem dX6_withClashes_3 : decode cX6_withClashes 3 = .ok (.getfield 42, 3) := by decide +kernel
theorem dX6_withClashes_6 : decode cX6_withClashes 6 = .ok (.invokevirtual 167, 3) := by decide +kernel
theorem dX6_withClashes_9 : decode cX6_withClashes 9 = .ok (.lstore 5, 2) := by decide +kernel
theorem dX6_withClashes_11 : decode cX6_withClashes 11 = .ok (.iconst 0, 1) := by decide +kernel
theorem dX6_withClashes_12 : decode cX6_withClashes 12 = .ok (.istore 7, 2) := by decide +kernel
theorem dX6_withClashes_14 : decode cX6_withClashes 14 = .ok (.iload 7, 2) := by decide +kernel
theorem dX6_withClashes_16 : decode cX6_withClashes 16 = .ok (.bipush 48, 2) := by decide +kernel
theorem dX6_withClashes_18 : decode cX6_withClashes 18 = .ok (.if_icmp .ge 42, 3) := by decide +kernel
theorem dX6_withClashes_21 : decode cX6_withClashes 21 = .ok (.lload 5, 2) := by decide +kernel
theorem dX6_withClashes_23 : decode cX6_withClashes 23 = .ok (.iload 7, 2) := by decide +kernel
theorem dX6_withClashes_25 : decode cX6_withClashes 25 = .ok (.invokestatic 218, 3) := by decide +kernel
theorem dX6_withClashes_28 : decode cX6_withClashes 28 = .ok (.ifCond .eq 26, 3) := by decide +kernel
theorem dX6_withClashes_31 : decode cX6_withClashes 31 = .ok (.lload_n 3, 1) := by decide +kernel
theorem dX6_withClashes_32 : decode cX6_withClashes 32 = .ok (.iload 7, 2) := by decide +kernel
theorem dX6_withClashes_34 : decode cX6_withClashes 34 = .ok (.i2l, 1) := by decide +kernel
theorem dX6_withClashes_35 : decode cX6_withClashes 35 = .ok (.invokestatic 196, 3) := by decide +kernel
theorem dX6_withClashes_38 : decode cX6_withClashes 38 = .ok (.lstore_n 3, 1) := by decide +kernel
theorem dX6_withClashes_39 : decode cX6_withClashes 39 = .ok (.lload_n 3, 1) := by decide +kernel
theorem dX6_withClashes_40 : decode cX6_withClashes 40 = .ok (.aload_n 0, 1) := by decide +kernel
theorem dX6_withClashes_41 : decode cX6_withClashes 41 = .ok (.getfield 42, 3) := by decide +kernel
theorem dX6_withClashes_44 : decode cX6_withClashes 44 = .ok (.iload 7, 2) := by decide +kernel
theorem dX6_withClashes_46 : decode cX6_withClashes 46 = .ok (.invokevirtual 147, 3) := by decide +kernel
theorem dX6_withClashes_49 : decode cX6_withClashes 49 = .ok (.i2l, 1) := by decide +kernel
theorem dX6_withClashes_50 : decode cX6_withClashes 50 = .ok (.invokestatic 196, 3) := by decide +kernel
theorem dX6_withClashes_53 : decode cX6_withClashes 53 = .ok (.lstore_n 3, 1) := by decide +kernel
theorem dX6_withClashes_54 : decode cX6_withClashes 54 = .ok (.iinc 7 1, 3) := by decide +kernel
theorem dX6_withClashes_57 : decode cX6_withClashes 57 = .ok (.goto (-43), 3) := by decide +kernel
theorem dX6_withClashes_60 : decode cX6_withClashes 60 = .ok (.lload_n 3, 1) := by decide +kernel
theorem dX6_withClashes_61 : decode cX6_withClashes 61 = .ok (.lreturn, 1) := by decide +kernel
theorem dX6_mix_0 : decode cX6_mix 0 = .ok (.ldc2_w 222, 3) := by decide +kernel
theorem dX6_mix_3 : decode cX6_mix 3 = .ok (.lload_n 0, 1) := by decide +kernel
theorem dX6_mix_4 : decode cX6_mix 4 = .ok (.lmul, 1) := by decide +kernel
theorem dX6_mix_5 : decode cX6_mix 5 = .ok (.lload_n 2, 1) := by decide +kernel
theorem dX6_mix_6 : decode cX6_mix 6 = .ok (.ladd, 1) := by decide +kernel
theorem dX6_mix_7 : decode cX6_mix 7 = .ok (.lreturn, 1) := by decide +kernel
theorem dX6_isItem_0 : decode cX6_isItem 0 = .ok (.iload_n 0, 1) := by decide +kernel
theorem dX6_isItem_1 : decode cX6_isItem 1 = .ok (.ifCond .lt 13, 3) := by decide +kernel
theorem dX6_isItem_4 : decode cX6_isItem 4 = .ok (.iload_n 0, 1) := by decide +kernel
theorem dX6_isItem_5 : decode cX6_isItem 5 = .ok (.bipush 12, 2) := by decide +kernel
theorem dX6_isItem_7 : decode cX6_isItem 7 = .ok (.if_icmp .ge 7, 3) := by decide +kernel
theorem dX6_isItem_10 : decode cX6_isItem 10 = .ok (.iconst 1, 1) := by decide +kernel
theorem dX6_isItem_11 : decode cX6_isItem 11 = .ok (.goto 4, 3) := by decide +kernel
theorem dX6_isItem_14 : decode cX6_isItem 14 = .ok (.iconst 0, 1) := by decide +kernel
theorem dX6_isItem_15 : decode cX6_isItem 15 = .ok (.ireturn, 1) := by decide +kernel
theorem dX6_isSet_0 : decode cX6_isSet 0 = .ok (.lload_n 0, 1) := by decide +kernel
theorem dX6_isSet_1 : decode cX6_isSet 1 = .ok (.iload_n 2, 1) := by decide +kernel
theorem dX6_isSet_2 : decode cX6_isSet 2 = .ok (.lshr, 1) := by decide +kernel
theorem dX6_isSet_3 : decode cX6_isSet 3 = .ok (.lconst 1, 1) := by decide +kernel
theorem dX6_isSet_4 : decode cX6_isSet 4 = .ok (.land, 1) := by decide +kernel
theorem dX6_isSet_5 : decode cX6_isSet 5 = .ok (.lconst 0, 1) := by decide +kernel
theorem dX6_isSet_6 : decode cX6_isSet 6 = .ok (.lcmp, 1) := by decide +kernel
theorem dX6_isSet_7 : decode cX6_isSet 7 = .ok (.ifCond .eq 7, 3) := by decide +kernel
theorem dX6_isSet_10 : decode cX6_isSet 10 = .ok (.iconst 1, 1) := by decide +kernel
theorem dX6_isSet_11 : decode cX6_isSet 11 = .ok (.goto 4, 3) := by decide +kernel
theorem dX6_isSet_14 : decode cX6_isSet 14 = .ok (.iconst 0, 1) := by decide +kernel
theorem dX6_isSet_15 : decode cX6_isSet 15 = .ok (.ireturn, 1) := by decide +kernel
theorem dX7_init_0 : decode cX7_init 0 = .ok (.aload_n 0, 1) := by decide +kernel
theorem dX7_init_1 : decode cX7_init 1 = .ok (.invokespecial 1, 3) := by decide +kernel
theorem dX7_init_4 : decode cX7_init 4 = .ok (.aload_n 0, 1) := by decide +kernel
theorem dX7_init_5 : decode cX7_init 5 = .ok (.bipush 24, 2) := by decide +kernel
theorem dX7_init_7 : decode cX7_init 7 = .ok (.newarray .int, 2) := by decide +kernel
theorem dX7_init_9 : decode cX7_init 9 = .ok (.putfield 7, 3) := by decide +kernel
theorem dX7_init_12 : decode cX7_init 12 = .ok (.aload_n 0, 1) := by decide +kernel
theorem dX7_init_13 : decode cX7_init 13 = .ok (.bipush 108, 2) := by decide +kernel
theorem dX7_init_15 : decode cX7_init 15 = .ok (.newarray .int, 2) := by decide +kernel
theorem dX7_init_17 : decode cX7_init 17 = .ok (.putfield 13, 3) := by decide +kernel
theorem dX7_init_20 : decode cX7_init 20 = .ok (.aload_n 0, 1) := by decide +kernel
theorem dX7_init_21 : decode cX7_init 21 = .ok (.bipush 8, 2) := by decide +kernel
theorem dX7_init_23 : decode cX7_init 23 = .ok (.newarray .int, 2) := by decide +kernel
theorem dX7_init_25 : decode cX7_init 25 = .ok (.putfield 16, 3) := by decide +kernel
theorem dX7_init_28 : decode cX7_init 28 = .ok (.aload_n 0, 1) := by decide +kernel
theorem dX7_init_29 : decode cX7_init 29 = .ok (.bipush 64, 2) := by decide +kernel
theorem dX7_init_31 : decode cX7_init 31 = .ok (.newarray .int, 2) := by decide +kernel
theorem dX7_init_33 : decode cX7_init 33 = .ok (.putfield 19, 3) := by decide +kernel
theorem dX7_init_36 : decode cX7_init 36 = .ok (.aload_n 0, 1) := by decide +kernel
theorem dX7_init_37 : decode cX7_init 37 = .ok (.bipush 8, 2) := by decide +kernel
theorem dX7_init_39 : decode cX7_init 39 = .ok (.newarray .int, 2) := by decide +kernel
theorem dX7_init_41 : decode cX7_init 41 = .ok (.putfield 22, 3) := by decide +kernel
theorem dX7_init_44 : decode cX7_init 44 = .ok (.aload_n 0, 1) := by decide +kernel
theorem dX7_init_45 : decode cX7_init 45 = .ok (.bipush 8, 2) := by decide +kernel
theorem dX7_init_47 : decode cX7_init 47 = .ok (.newarray .int, 2) := by decide +kernel
theorem dX7_init_49 : decode cX7_init 49 = .ok (.putfield 25, 3) := by decide +kernel
theorem dX7_init_52 : decode cX7_init 52 = .ok (.aload_n 0, 1) := by decide +kernel
theorem dX7_init_53 : decode cX7_init 53 = .ok (.bipush 48, 2) := by decide +kernel
theorem dX7_init_55 : decode cX7_init 55 = .ok (.newarray .int, 2) := by decide +kernel
theorem dX7_init_57 : decode cX7_init 57 = .ok (.putfield 28, 3) := by decide +kernel
theorem dX7_init_60 : decode cX7_init 60 = .ok (.return_, 1) := by decide +kernel
theorem dX7_within_0 : decode cX7_within 0 = .ok (.iload_n 0, 1) := by decide +kernel
theorem dX7_within_1 : decode cX7_within 1 = .ok (.iload_n 1, 1) := by decide +kernel
theorem dX7_within_2 : decode cX7_within 2 = .ok (.if_icmp .lt 12, 3) := by decide +kernel
theorem dX7_within_5 : decode cX7_within 5 = .ok (.iload_n 0, 1) := by decide +kernel
theorem dX7_within_6 : decode cX7_within 6 = .ok (.iload_n 2, 1) := by decide +kernel
theorem dX7_within_7 : decode cX7_within 7 = .ok (.if_icmp .gt 7, 3) := by decide +kernel
theorem dX7_within_10 : decode cX7_within 10 = .ok (.iconst 1, 1) := by decide +kernel
theorem dX7_within_11 : decode cX7_within 11 = .ok (.goto 4, 3) := by decide +kernel
theorem dX7_within_14 : decode cX7_within 14 = .ok (.iconst 0, 1) := by decide +kernel
theorem dX7_within_15 : decode cX7_within 15 = .ok (.ireturn, 1) := by decide +kernel
theorem dX7_has_0 : decode cX7_has 0 = .ok (.iload_n 0, 1) := by decide +kernel
theorem dX7_has_1 : decode cX7_has 1 = .ok (.iload_n 1, 1) := by decide +kernel
theorem dX7_has_2 : decode cX7_has 2 = .ok (.ishr, 1) := by decide +kernel
theorem dX7_has_3 : decode cX7_has 3 = .ok (.iconst 1, 1) := by decide +kernel
theorem dX7_has_4 : decode cX7_has 4 = .ok (.iand, 1) := by decide +kernel
theorem dX7_has_5 : decode cX7_has 5 = .ok (.iconst 1, 1) := by decide +kernel
theorem dX7_has_6 : decode cX7_has 6 = .ok (.if_icmp .ne 7, 3) := by decide +kernel
theorem dX7_has_9 : decode cX7_has 9 = .ok (.iconst 1, 1) := by decide +kernel
theorem dX7_has_10 : decode cX7_has 10 = .ok (.goto 4, 3) := by decide +kernel
theorem dX7_has_13 : decode cX7_has 13 = .ok (.iconst 0, 1) := by decide +kernel
theorem dX7_has_14 : decode cX7_has 14 = .ok (.ireturn, 1) := by decide +kernel
theorem dX7_ones_0 : decode cX7_ones 0 = .ok (.iconst 0, 1) := by decide +kernel
theorem dX7_ones_1 : decode cX7_ones 1 = .ok (.istore_n 1, 1) := by decide +kernel
theorem dX7_ones_2 : decode cX7_ones 2 = .ok (.iconst 0, 1) := by decide +kernel
theorem dX7_ones_3 : decode cX7_ones 3 = .ok (.istore_n 2, 1) := by decide +kernel
theorem dX7_ones_4 : decode cX7_ones 4 = .ok (.iload_n 2, 1) := by decide +kernel
theorem dX7_ones_5 : decode cX7_ones 5 = .ok (.bipush 8, 2) := by decide +kernel
theorem dX7_ones_7 : decode cX7_ones 7 = .ok (.if_icmp .ge 17, 3) := by decide +kernel
theorem dX7_ones_10 : decode cX7_ones 10 = .ok (.iload_n 1, 1) := by decide +kernel
theorem dX7_ones_11 : decode cX7_ones 11 = .ok (.iload_n 0, 1) := by decide +kernel
theorem dX7_ones_12 : decode cX7_ones 12 = .ok (.iload_n 2, 1) := by decide +kernel
theorem dX7_ones_13 : decode cX7_ones 13 = .ok (.ishr, 1) := by decide +kernel
theorem dX7_ones_14 : decode cX7_ones 14 = .ok (.iconst 1, 1) := by decide +kernel
theorem dX7_ones_15 : decode cX7_ones 15 = .ok (.iand, 1) := by decide +kernel
theorem dX7_ones_16 : decode cX7_ones 16 = .ok (.iadd, 1) := by decide +kernel
theorem dX7_ones_17 : decode cX7_ones 17 = .ok (.istore_n 1, 1) := by decide +kernel
theorem dX7_ones_18 : decode cX7_ones 18 = .ok (.iinc 2 1, 3) := by decide +kernel
theorem dX7_ones_21 : decode cX7_ones 21 = .ok (.goto (-17), 3) := by decide +kernel
theorem dX7_ones_24 : decode cX7_ones 24 = .ok (.iload_n 1, 1) := by decide +kernel
theorem dX7_ones_25 : decode cX7_ones 25 = .ok (.ireturn, 1) := by decide +kernel
set_option maxRecDepth 20000 in
theorem ggX7_letter_X7_within : GoodIn wsX7_letter wsX7_within := goodIn_r _ [6] (by decide +kernel) (by decide +kernel)
set_option maxRecDepth 20000 in
theorem gX7_letter_X7_within : GoodIn wsX7_letter (va_wsS RX7 31 yX7_within wsX7_within) := goodIn_app (goodIn_of _ (by decide +kernel)) ggX7_letter_X7_within
theorem dX7_letter_0 : decode cX7_letter 0 = .ok (.iload_n 1, 1) := by decide +kernel
theorem dX7_letter_1 : decode cX7_letter 1 = .ok (.bipush 32, 2) := by decide +kernel
theorem dX7_letter_3 : decode cX7_letter 3 = .ok (.bipush 126, 2) := by decide +kernel
theorem dX7_letter_5 : decode cX7_letter 5 = .ok (.invokestatic 31, 3) := by decide +kernel
theorem dX7_letter_8 : decode cX7_letter 8 = .ok (.ifCond .ne 7, 3) := by decide +kernel
theorem dX7_letter_11 : decode cX7_letter 11 = .ok (.sipush (-1002), 3) := by decide +kernel
theorem dX7_letter_14 : decode cX7_letter 14 = .ok (.ireturn, 1) := by decide +kernel
theorem dX7_letter_15 : decode cX7_letter 15 = .ok (.aload_n 0, 1) := by decide +kernel
theorem dX7_letter_16 : decode cX7_letter 16 = .ok (.getfield 35, 3) := by decide +kernel
theorem dX7_letter_19 : decode cX7_letter 19 = .ok (.bipush 24, 2) := by decide +kernel
theorem dX7_letter_21 : decode cX7_letter 21 = .ok (.if_icmp .ne 7, 3) := by decide +kernel
theorem dX7_letter_24 : decode cX7_letter 24 = .ok (.sipush (-1004), 3) := by decide +kernel
theorem dX7_letter_27 : decode cX7_letter 27 = .ok (.ireturn, 1) := by decide +kernel
theorem dX7_letter_28 : decode cX7_letter 28 = .ok (.aload_n 0, 1) := by decide +kernel
theorem dX7_letter_29 : decode cX7_letter 29 = .ok (.getfield 7, 3) := by decide +kernel
theorem dX7_letter_32 : decode cX7_letter 32 = .ok (.aload_n 0, 1) := by decide +kernel
theorem dX7_letter_33 : decode cX7_letter 33 = .ok (.getfield 35, 3) := by decide +kernel
theorem dX7_letter_36 : decode cX7_letter 36 = .ok (.iload_n 1, 1) := by decide +kernel
theorem dX7_letter_37 : decode cX7_letter 37 = .ok (.iastore, 1) := by decide +kernel
theorem dX7_letter_38 : decode cX7_letter 38 = .ok (.aload_n 0, 1) := by decide +kernel
theorem dX7_letter_39 : decode cX7_letter 39 = .ok (.dup, 1) := by decide +kernel
theorem dX7_letter_40 : decode cX7_letter 40 = .ok (.getfield 35, 3) := by decide +kernel
theorem dX7_letter_43 : decode cX7_letter 43 = .ok (.iconst 1, 1) := by decide +kernel
theorem dX7_letter_44 : decode cX7_letter 44 = .ok (.iadd, 1) := by decide +kernel
theorem dX7_letter_45 : decode cX7_letter 45 = .ok (.putfield 35, 3) := by decide +kernel
theorem dX7_letter_48 : decode cX7_letter 48 = .ok (.aload_n 0, 1) := by decide +kernel
theorem dX7_letter_49 : decode cX7_letter 49 = .ok (.getfield 35, 3) := by decide +kernel
theorem dX7_letter_52 : decode cX7_letter 52 = .ok (.ireturn, 1) := by decide +kernel
theorem dX7_blank_0 : decode cX7_blank 0 = .ok (.aload_n 0, 1) := by decide +kernel
theorem dX7_blank_1 : decode cX7_blank 1 = .ok (.getfield 35, 3) := by decide +kernel
theorem dX7_blank_4 : decode cX7_blank 4 = .ok (.istore_n 1, 1) := by decide +kernel
theorem dX7_blank_5 : decode cX7_blank 5 = .ok (.aload_n 0, 1) := by decide +kernel
theorem dX7_blank_6 : decode cX7_blank 6 = .ok (.iconst 0, 1) := by decide +kernel
theorem dX7_blank_7 : decode cX7_blank 7 = .ok (.putfield 35, 3) := by decide +kernel
theorem dX7_blank_10 : decode cX7_blank 10 = .ok (.iload_n 1, 1) := by decide +kernel
theorem dX7_blank_11 : decode cX7_blank 11 = .ok (.ireturn, 1) := by decide +kernel
set_option maxRecDepth 20000 in
theorem ggX7_itemOf_X7_within : GoodIn wsX7_itemOf wsX7_within := goodIn_r _ [4] (by decide +kernel) (by decide +kernel)
set_option maxRecDepth 20000 in
theorem gX7_itemOf_X7_within : GoodIn wsX7_itemOf (va_wsS RX7 31 yX7_within wsX7_within) := goodIn_app (goodIn_of _ (by decide +kernel)) ggX7_itemOf_X7_within
theorem dX7_itemOf_0 : decode cX7_itemOf 0 = .ok (.iload_n 0, 1) := by decide +kernel
theorem dX7_itemOf_1 : decode cX7_itemOf 1 = .ok (.bipush 112, 2) := by decide +kernel
theorem dX7_itemOf_3 : decode cX7_itemOf 3 = .ok (.bipush 117, 2) := by decide +kernel
theorem dX7_itemOf_5 : decode cX7_itemOf 5 = .ok (.invokestatic 31, 3) := by decide +kernel
theorem dX7_itemOf_8 : decode cX7_itemOf 8 = .ok (.ifCond .eq 10, 3) := by decide +kernel
theorem dX7_itemOf_11 : decode cX7_itemOf 11 = .ok (.iload_n 0, 1) := by decide +kernel
theorem dX7_itemOf_12 : decode cX7_itemOf 12 = .ok (.bipush 112, 2) := by decide +kernel
theorem dX7_itemOf_14 : decode cX7_itemOf 14 = .ok (.isub, 1) := by decide +kernel
theorem dX7_itemOf_15 : decode cX7_itemOf 15 = .ok (.goto 25, 3) := by decide +kernel
theorem dX7_itemOf_18 : decode cX7_itemOf 18 = .ok (.iload_n 0, 1) := by decide +kernel
theorem dX7_itemOf_19 : decode cX7_itemOf 19 = .ok (.bipush 80, 2) := by decide +kernel
theorem dX7_itemOf_21 : decode cX7_itemOf 21 = .ok (.bipush 85, 2) := by decide +kernel
theorem dX7_itemOf_23 : decode cX7_itemOf 23 = .ok (.invokestatic 31, 3) := by decide +kernel
theorem dX7_itemOf_26 : decode cX7_itemOf 26 = .ok (.ifCond .eq 13, 3) := by decide +kernel
theorem dX7_itemOf_29 : decode cX7_itemOf 29 = .ok (.iload_n 0, 1) := by decide +kernel
theorem dX7_itemOf_30 : decode cX7_itemOf 30 = .ok (.bipush 80, 2) := by decide +kernel
theorem dX7_itemOf_32 : decode cX7_itemOf 32 = .ok (.isub, 1) := by decide +kernel
theorem dX7_itemOf_33 : decode cX7_itemOf 33 = .ok (.bipush 6, 2) := by decide +kernel
theorem dX7_itemOf_35 : decode cX7_itemOf 35 = .ok (.iadd, 1) := by decide +kernel
theorem dX7_itemOf_36 : decode cX7_itemOf 36 = .ok (.goto 4, 3) := by decide +kernel
theorem dX7_itemOf_39 : decode cX7_itemOf 39 = .ok (.iconst (-1), 1) := by decide +kernel
theorem dX7_itemOf_40 : decode cX7_itemOf 40 = .ok (.ireturn, 1) := by decide +kernel
set_option maxRecDepth 20000 in
theorem ggX7_readPage_X7_itemOf : GoodIn wsX7_readPage wsX7_itemOf := goodIn_r _ [7, 8, 9, 6, 10] (by decide +kernel) (by decide +kernel)
set_option maxRecDepth 20000 in
theorem gX7_readPage_X7_itemOf : GoodIn wsX7_readPage (va_wsS RX7 39 yX7_itemOf wsX7_itemOf) := goodIn_app (goodIn_of _ (by decide +kernel)) ggX7_readPage_X7_itemOf
theorem dX7_readPage_0 : decode cX7_readPage 0 = .ok (.iconst 0, 1) := by decide +kernel
theorem dX7_readPage_1 : decode cX7_readPage 1 = .ok (.istore_n 1, 1) := by decide +kernel
theorem dX7_readPage_2 : decode cX7_readPage 2 = .ok (.iload_n 1, 1) := by decide +kernel
theorem dX7_readPage_3 : decode cX7_readPage 3 = .ok (.bipush 12, 2) := by decide +kernel
theorem dX7_readPage_5 : decode cX7_readPage 5 = .ok (.if_icmp .ge 19, 3) := by decide +kernel
theorem dX7_readPage_8 : decode cX7_readPage 8 = .ok (.aload_n 0, 1) := by decide +kernel
theorem dX7_readPage_9 : decode cX7_readPage 9 = .ok (.getfield 13, 3) := by decide +kernel
theorem dX7_readPage_12 : decode cX7_readPage 12 = .ok (.bipush 96, 2) := by decide +kernel
theorem dX7_readPage_14 : decode cX7_readPage 14 = .ok (.iload_n 1, 1) := by decide +kernel
theorem dX7_readPage_15 : decode cX7_readPage 15 = .ok (.iadd, 1) := by decide +kernel
theorem dX7_readPage_16 : decode cX7_readPage 16 = .ok (.iconst 0, 1) := by decide +kernel
theorem dX7_readPage_17 : decode cX7_readPage 17 = .ok (.iastore, 1) := by decide +kernel
theorem dX7_readPage_18 : decode cX7_readPage 18 = .ok (.iinc 1 1, 3) := by decide +kernel
theorem dX7_readPage_21 : decode cX7_readPage 21 = .ok (.goto (-19), 3) := by decide +kernel
theorem dX7_readPage_24 : decode cX7_readPage 24 = .ok (.iconst 0, 1) := by decide +kernel
theorem dX7_readPage_25 : decode cX7_readPage 25 = .ok (.istore_n 1, 1) := by decide +kernel
theorem dX7_readPage_26 : decode cX7_readPage 26 = .ok (.iconst (-1), 1) := by decide +kernel
theorem dX7_readPage_27 : decode cX7_readPage 27 = .ok (.istore_n 2, 1) := by decide +kernel
theorem dX7_readPage_28 : decode cX7_readPage 28 = .ok (.iconst 1, 1) := by decide +kernel
theorem dX7_readPage_29 : decode cX7_readPage 29 = .ok (.istore_n 3, 1) := by decide +kernel
theorem dX7_readPage_30 : decode cX7_readPage 30 = .ok (.iload_n 3, 1) := by decide +kernel
theorem dX7_readPage_31 : decode cX7_readPage 31 = .ok (.ifCond .eq 124, 3) := by decide +kernel
theorem dX7_readPage_34 : decode cX7_readPage 34 = .ok (.iload_n 1, 1) := by decide +kernel
theorem dX7_readPage_35 : decode cX7_readPage 35 = .ok (.aload_n 0, 1) := by decide +kernel
theorem dX7_readPage_36 : decode cX7_readPage 36 = .ok (.getfield 35, 3) := by decide +kernel
theorem dX7_readPage_39 : decode cX7_readPage 39 = .ok (.if_icmp .ge 116, 3) := by decide +kernel
theorem dX7_readPage_42 : decode cX7_readPage 42 = .ok (.aload_n 0, 1) := by decide +kernel
theorem dX7_readPage_43 : decode cX7_readPage 43 = .ok (.getfield 7, 3) := by decide +kernel
theorem dX7_readPage_46 : decode cX7_readPage 46 = .ok (.iload_n 1, 1) := by decide +kernel
theorem dX7_readPage_47 : decode cX7_readPage 47 = .ok (.iaload, 1) := by decide +kernel
theorem dX7_readPage_48 : decode cX7_readPage 48 = .ok (.istore 4, 2) := by decide +kernel
theorem dX7_readPage_50 : decode cX7_readPage 50 = .ok (.iload 4, 2) := by decide +kernel
theorem dX7_readPage_52 : decode cX7_readPage 52 = .ok (.invokestatic 39, 3) := by decide +kernel
theorem dX7_readPage_55 : decode cX7_readPage 55 = .ok (.istore 5, 2) := by decide +kernel
theorem dX7_readPage_57 : decode cX7_readPage 57 = .ok (.iload 5, 2) := by decide +kernel
theorem dX7_readPage_59 : decode cX7_readPage 59 = .ok (.iconst (-1), 1) := by decide +kernel
theorem dX7_readPage_60 : decode cX7_readPage 60 = .ok (.if_icmp .eq 33, 3) := by decide +kernel
theorem dX7_readPage_63 : decode cX7_readPage 63 = .ok (.aload_n 0, 1) := by decide +kernel
theorem dX7_readPage_64 : decode cX7_readPage 64 = .ok (.getfield 13, 3) := by decide +kernel
theorem dX7_readPage_67 : decode cX7_readPage 67 = .ok (.bipush 96, 2) := by decide +kernel
theorem dX7_readPage_69 : decode cX7_readPage 69 = .ok (.iload 5, 2) := by decide +kernel
theorem dX7_readPage_71 : decode cX7_readPage 71 = .ok (.iadd, 1) := by decide +kernel
theorem dX7_readPage_72 : decode cX7_readPage 72 = .ok (.iaload, 1) := by decide +kernel
theorem dX7_readPage_73 : decode cX7_readPage 73 = .ok (.ifCond .ne 20, 3) := by decide +kernel
theorem dX7_readPage_76 : decode cX7_readPage 76 = .ok (.aload_n 0, 1) := by decide +kernel
theorem dX7_readPage_77 : decode cX7_readPage 77 = .ok (.getfield 13, 3) := by decide +kernel
theorem dX7_readPage_80 : decode cX7_readPage 80 = .ok (.bipush 96, 2) := by decide +kernel
theorem dX7_readPage_82 : decode cX7_readPage 82 = .ok (.iload 5, 2) := by decide +kernel
theorem dX7_readPage_84 : decode cX7_readPage 84 = .ok (.iadd, 1) := by decide +kernel
theorem dX7_readPage_85 : decode cX7_readPage 85 = .ok (.iconst 1, 1) := by decide +kernel
theorem dX7_readPage_86 : decode cX7_readPage 86 = .ok (.iastore, 1) := by decide +kernel
theorem dX7_readPage_87 : decode cX7_readPage 87 = .ok (.iload 5, 2) := by decide +kernel
theorem dX7_readPage_89 : decode cX7_readPage 89 = .ok (.istore_n 2, 1) := by decide +kernel
theorem dX7_readPage_90 : decode cX7_readPage 90 = .ok (.goto 50, 3) := by decide +kernel
theorem dX7_readPage_93 : decode cX7_readPage 93 = .ok (.iload_n 2, 1) := by decide +kernel
theorem dX7_readPage_94 : decode cX7_readPage 94 = .ok (.iconst (-1), 1) := by decide +kernel
theorem dX7_readPage_95 : decode cX7_readPage 95 = .ok (.if_icmp .eq 43, 3) := by decide +kernel
theorem dX7_readPage_98 : decode cX7_readPage 98 = .ok (.iload 4, 2) := by decide +kernel
theorem dX7_readPage_100 : decode cX7_readPage 100 = .ok (.bipush 43, 2) := by decide +kernel
theorem dX7_readPage_102 : decode cX7_readPage 102 = .ok (.if_icmp .eq 10, 3) := by decide +kernel
theorem dX7_readPage_105 : decode cX7_readPage 105 = .ok (.iload 4, 2) := by decide +kernel
theorem dX7_readPage_107 : decode cX7_readPage 107 = .ok (.bipush 42, 2) := by decide +kernel
theorem dX7_readPage_109 : decode cX7_readPage 109 = .ok (.if_icmp .ne 29, 3) := by decide +kernel
theorem dX7_readPage_112 : decode cX7_readPage 112 = .ok (.aload_n 0, 1) := by decide +kernel
theorem dX7_readPage_113 : decode cX7_readPage 113 = .ok (.getfield 13, 3) := by decide +kernel
theorem dX7_readPage_116 : decode cX7_readPage 116 = .ok (.bipush 96, 2) := by decide +kernel
theorem dX7_readPage_118 : decode cX7_readPage 118 = .ok (.iload_n 2, 1) := by decide +kernel
theorem dX7_readPage_119 : decode cX7_readPage 119 = .ok (.iadd, 1) := by decide +kernel
theorem dX7_readPage_120 : decode cX7_readPage 120 = .ok (.iload 4, 2) := by decide +kernel
theorem dX7_readPage_122 : decode cX7_readPage 122 = .ok (.bipush 43, 2) := by decide +kernel
theorem dX7_readPage_124 : decode cX7_readPage 124 = .ok (.if_icmp .ne 7, 3) := by decide +kernel
theorem dX7_readPage_127 : decode cX7_readPage 127 = .ok (.iconst 2, 1) := by decide +kernel
theorem dX7_readPage_128 : decode cX7_readPage 128 = .ok (.goto 4, 3) := by decide +kernel
theorem dX7_readPage_131 : decode cX7_readPage 131 = .ok (.iconst 3, 1) := by decide +kernel
theorem dX7_readPage_132 : decode cX7_readPage 132 = .ok (.iastore, 1) := by decide +kernel
theorem dX7_readPage_133 : decode cX7_readPage 133 = .ok (.iconst (-1), 1) := by decide +kernel
theorem dX7_readPage_134 : decode cX7_readPage 134 = .ok (.istore_n 2, 1) := by decide +kernel
theorem dX7_readPage_135 : decode cX7_readPage 135 = .ok (.goto 5, 3) := by decide +kernel
theorem dX7_readPage_138 : decode cX7_readPage 138 = .ok (.iconst 0, 1) := by decide +kernel
theorem dX7_readPage_139 : decode cX7_readPage 139 = .ok (.istore_n 3, 1) := by decide +kernel
theorem dX7_readPage_140 : decode cX7_readPage 140 = .ok (.iload_n 1, 1) := by decide +kernel
theorem dX7_readPage_141 : decode cX7_readPage 141 = .ok (.iload_n 3, 1) := by decide +kernel
theorem dX7_readPage_142 : decode cX7_readPage 142 = .ok (.ifCond .eq 7, 3) := by decide +kernel
theorem dX7_readPage_145 : decode cX7_readPage 145 = .ok (.iconst 1, 1) := by decide +kernel
theorem dX7_readPage_146 : decode cX7_readPage 146 = .ok (.goto 4, 3) := by decide +kernel
theorem dX7_readPage_149 : decode cX7_readPage 149 = .ok (.iconst 0, 1) := by decide +kernel
theorem dX7_readPage_150 : decode cX7_readPage 150 = .ok (.iadd, 1) := by decide +kernel
theorem dX7_readPage_151 : decode cX7_readPage 151 = .ok (.istore_n 1, 1) := by decide +kernel
theorem dX7_readPage_152 : decode cX7_readPage 152 = .ok (.goto (-122), 3) := by decide +kernel
theorem dX7_readPage_155 : decode cX7_readPage 155 = .ok (.iload_n 1, 1) := by decide +kernel
theorem dX7_readPage_156 : decode cX7_readPage 156 = .ok (.ireturn, 1) := by decide +kernel
set_option maxRecDepth 20000 in
theorem ggX7_fault_X7_readPage : GoodIn wsX7_fault wsX7_readPage := goodIn_r _ [5, 6, 7, 8, 9, 10, 4, 11, 12, 13, 14, 15, 16, 17, 18, 19, 20, 21, 22, 23, 24, 25, 26, 27, 28] (by decide +kernel) (by decide +kernel)
set_option maxRecDepth 20000 in
theorem gX7_fault_X7_readPage : GoodIn wsX7_fault (wsV RX7 43 RX7 yX7_readPage wsX7_readPage) := goodIn_app (goodIn_of _ (by decide +kernel)) ggX7_fault_X7_readPage
theorem dX7_fault_0 : decode cX7_fault 0 = .ok (.aload_n 0, 1) := by decide +kernel
theorem dX7_fault_1 : decode cX7_fault 1 = .ok (.invokevirtual 43, 3) := by decide +kernel
theorem dX7_fault_4 : decode cX7_fault 4 = .ok (.ireturn, 1) := by decide +kernel
theorem dX7_likeRead_0 : decode cX7_likeRead 0 = .ok (.iconst 0, 1) := by decide +kernel
theorem dX7_likeRead_1 : decode cX7_likeRead 1 = .ok (.istore_n 2, 1) := by decide +kernel
theorem dX7_likeRead_2 : decode cX7_likeRead 2 = .ok (.iload_n 2, 1) := by decide +kernel
theorem dX7_likeRead_3 : decode cX7_likeRead 3 = .ok (.aload_n 0, 1) := by decide +kernel
theorem dX7_likeRead_4 : decode cX7_likeRead 4 = .ok (.getfield 47, 3) := by decide +kernel
theorem dX7_likeRead_7 : decode cX7_likeRead 7 = .ok (.if_icmp .ge 67, 3) := by decide +kernel
theorem dX7_likeRead_10 : decode cX7_likeRead 10 = .ok (.iconst 1, 1) := by decide +kernel
theorem dX7_likeRead_11 : decode cX7_likeRead 11 = .ok (.istore_n 3, 1) := by decide +kernel
theorem dX7_likeRead_12 : decode cX7_likeRead 12 = .ok (.iconst 0, 1) := by decide +kernel
theorem dX7_likeRead_13 : decode cX7_likeRead 13 = .ok (.istore 4, 2) := by decide +kernel
theorem dX7_likeRead_15 : decode cX7_likeRead 15 = .ok (.iload 4, 2) := by decide +kernel
theorem dX7_likeRead_17 : decode cX7_likeRead 17 = .ok (.bipush 12, 2) := by decide +kernel
theorem dX7_likeRead_19 : decode cX7_likeRead 19 = .ok (.if_icmp .ge 43, 3) := by decide +kernel
theorem dX7_likeRead_22 : decode cX7_likeRead 22 = .ok (.iload_n 3, 1) := by decide +kernel
theorem dX7_likeRead_23 : decode cX7_likeRead 23 = .ok (.ifCond .eq 31, 3) := by decide +kernel
theorem dX7_likeRead_26 : decode cX7_likeRead 26 = .ok (.aload_n 0, 1) := by decide +kernel
theorem dX7_likeRead_27 : decode cX7_likeRead 27 = .ok (.getfield 13, 3) := by decide +kernel
theorem dX7_likeRead_30 : decode cX7_likeRead 30 = .ok (.bipush 12, 2) := by decide +kernel
theorem dX7_likeRead_32 : decode cX7_likeRead 32 = .ok (.iload_n 2, 1) := by decide +kernel
theorem dX7_likeRead_33 : decode cX7_likeRead 33 = .ok (.imul, 1) := by decide +kernel
theorem dX7_likeRead_34 : decode cX7_likeRead 34 = .ok (.iload 4, 2) := by decide +kernel
theorem dX7_likeRead_36 : decode cX7_likeRead 36 = .ok (.iadd, 1) := by decide +kernel
theorem dX7_likeRead_37 : decode cX7_likeRead 37 = .ok (.iaload, 1) := by decide +kernel
theorem dX7_likeRead_38 : decode cX7_likeRead 38 = .ok (.aload_n 0, 1) := by decide +kernel
theorem dX7_likeRead_39 : decode cX7_likeRead 39 = .ok (.getfield 13, 3) := by decide +kernel
theorem dX7_likeRead_42 : decode cX7_likeRead 42 = .ok (.iload_n 1, 1) := by decide +kernel
theorem dX7_likeRead_43 : decode cX7_likeRead 43 = .ok (.iload 4, 2) := by decide +kernel
theorem dX7_likeRead_45 : decode cX7_likeRead 45 = .ok (.iadd, 1) := by decide +kernel
theorem dX7_likeRead_46 : decode cX7_likeRead 46 = .ok (.iaload, 1) := by decide +kernel
theorem dX7_likeRead_47 : decode cX7_likeRead 47 = .ok (.if_icmp .ne 7, 3) := by decide +kernel
theorem dX7_likeRead_50 : decode cX7_likeRead 50 = .ok (.iconst 1, 1) := by decide +kernel
theorem dX7_likeRead_51 : decode cX7_likeRead 51 = .ok (.goto 4, 3) := by decide +kernel
theorem dX7_likeRead_54 : decode cX7_likeRead 54 = .ok (.iconst 0, 1) := by decide +kernel
theorem dX7_likeRead_55 : decode cX7_likeRead 55 = .ok (.istore_n 3, 1) := by decide +kernel
theorem dX7_likeRead_56 : decode cX7_likeRead 56 = .ok (.iinc 4 1, 3) := by decide +kernel
theorem dX7_likeRead_59 : decode cX7_likeRead 59 = .ok (.goto (-44), 3) := by decide +kernel
theorem dX7_likeRead_62 : decode cX7_likeRead 62 = .ok (.iload_n 3, 1) := by decide +kernel
theorem dX7_likeRead_63 : decode cX7_likeRead 63 = .ok (.ifCond .eq 5, 3) := by decide +kernel
theorem dX7_likeRead_66 : decode cX7_likeRead 66 = .ok (.iload_n 2, 1) := by decide +kernel
theorem dX7_likeRead_67 : decode cX7_likeRead 67 = .ok (.ireturn, 1) := by decide +kernel
theorem dX7_likeRead_68 : decode cX7_likeRead 68 = .ok (.iinc 2 1, 3) := by decide +kernel
theorem dX7_likeRead_71 : decode cX7_likeRead 71 = .ok (.goto (-69), 3) := by decide +kernel
theorem dX7_likeRead_74 : decode cX7_likeRead 74 = .ok (.iconst (-1), 1) := by decide +kernel
theorem dX7_likeRead_75 : decode cX7_likeRead 75 = .ok (.ireturn, 1) := by decide +kernel
set_option maxRecDepth 20000 in
theorem ggX7_terms_X7_readPage : GoodIn wsX7_terms wsX7_readPage := goodIn_r _ [8, 3, 1, 9, 10, 11, 7, 12, 13, 14, 15, 20, 21, 22, 23, 24, 25, 26, 27, 28, 29, 30, 31, 32, 33] (by decide +kernel) (by decide +kernel)
set_option maxRecDepth 20000 in
theorem gX7_terms_X7_readPage : GoodIn wsX7_terms (wsV RX7 43 RX7 yX7_readPage wsX7_readPage) := goodIn_app (goodIn_of _ (by decide +kernel)) ggX7_terms_X7_readPage
set_option maxRecDepth 20000 in
theorem ggX7_terms_X7_likeRead : GoodIn wsX7_terms wsX7_likeRead := goodIn_r _ [19, 2, 3, 20, 21, 22, 23, 24, 25, 26, 27, 28, 29, 30, 31, 32, 33] (by decide +kernel) (by decide +kernel)
set_option maxRecDepth 20000 in
theorem gX7_terms_X7_likeRead : GoodIn wsX7_terms (wsV RX7 50 RX7 yX7_likeRead wsX7_likeRead) := goodIn_app (goodIn_of _ (by decide +kernel)) ggX7_terms_X7_likeRead
theorem dX7_terms_0 : decode cX7_terms 0 = .ok (.aload_n 0, 1) := by decide +kernel
theorem dX7_terms_1 : decode cX7_terms 1 = .ok (.getfield 35, 3) := by decide +kernel
theorem dX7_terms_4 : decode cX7_terms 4 = .ok (.ifCond .eq 14, 3) := by decide +kernel
theorem dX7_terms_7 : decode cX7_terms 7 = .ok (.aload_n 0, 1) := by decide +kernel
theorem dX7_terms_8 : decode cX7_terms 8 = .ok (.invokevirtual 43, 3) := by decide +kernel
theorem dX7_terms_11 : decode cX7_terms 11 = .ok (.aload_n 0, 1) := by decide +kernel
theorem dX7_terms_12 : decode cX7_terms 12 = .ok (.getfield 35, 3) := by decide +kernel
theorem dX7_terms_15 : decode cX7_terms 15 = .ok (.if_icmp .ge 7, 3) := by decide +kernel
theorem dX7_terms_18 : decode cX7_terms 18 = .ok (.sipush (-1003), 3) := by decide +kernel
theorem dX7_terms_21 : decode cX7_terms 21 = .ok (.ireturn, 1) := by decide +kernel
theorem dX7_terms_22 : decode cX7_terms 22 = .ok (.aload_n 0, 1) := by decide +kernel
theorem dX7_terms_23 : decode cX7_terms 23 = .ok (.bipush 96, 2) := by decide +kernel
theorem dX7_terms_25 : decode cX7_terms 25 = .ok (.invokevirtual 50, 3) := by decide +kernel
theorem dX7_terms_28 : decode cX7_terms 28 = .ok (.istore_n 1, 1) := by decide +kernel
theorem dX7_terms_29 : decode cX7_terms 29 = .ok (.iload_n 1, 1) := by decide +kernel
theorem dX7_terms_30 : decode cX7_terms 30 = .ok (.iconst (-1), 1) := by decide +kernel
theorem dX7_terms_31 : decode cX7_terms 31 = .ok (.if_icmp .ne 16, 3) := by decide +kernel
theorem dX7_terms_34 : decode cX7_terms 34 = .ok (.aload_n 0, 1) := by decide +kernel
theorem dX7_terms_35 : decode cX7_terms 35 = .ok (.getfield 47, 3) := by decide +kernel
theorem dX7_terms_38 : decode cX7_terms 38 = .ok (.bipush 8, 2) := by decide +kernel
theorem dX7_terms_40 : decode cX7_terms 40 = .ok (.if_icmp .ne 7, 3) := by decide +kernel
theorem dX7_terms_43 : decode cX7_terms 43 = .ok (.sipush (-1004), 3) := by decide +kernel
theorem dX7_terms_46 : decode cX7_terms 46 = .ok (.ireturn, 1) := by decide +kernel
theorem dX7_terms_47 : decode cX7_terms 47 = .ok (.aload_n 0, 1) := by decide +kernel
theorem dX7_terms_48 : decode cX7_terms 48 = .ok (.iconst 0, 1) := by decide +kernel
theorem dX7_terms_49 : decode cX7_terms 49 = .ok (.putfield 35, 3) := by decide +kernel
theorem dX7_terms_52 : decode cX7_terms 52 = .ok (.iload_n 1, 1) := by decide +kernel
theorem dX7_terms_53 : decode cX7_terms 53 = .ok (.iconst (-1), 1) := by decide +kernel
theorem dX7_terms_54 : decode cX7_terms 54 = .ok (.if_icmp .eq 5, 3) := by decide +kernel
theorem dX7_terms_57 : decode cX7_terms 57 = .ok (.iload_n 1, 1) := by decide +kernel
theorem dX7_terms_58 : decode cX7_terms 58 = .ok (.ireturn, 1) := by decide +kernel
theorem dX7_terms_59 : decode cX7_terms 59 = .ok (.iconst 0, 1) := by decide +kernel
theorem dX7_terms_60 : decode cX7_terms 60 = .ok (.istore_n 2, 1) := by decide +kernel
theorem dX7_terms_61 : decode cX7_terms 61 = .ok (.iload_n 2, 1) := by decide +kernel
theorem dX7_terms_62 : decode cX7_terms 62 = .ok (.bipush 12, 2) := by decide +kernel
theorem dX7_terms_64 : decode cX7_terms 64 = .ok (.if_icmp .ge 32, 3) := by decide +kernel
theorem dX7_terms_67 : decode cX7_terms 67 = .ok (.aload_n 0, 1) := by decide +kernel
theorem dX7_terms_68 : decode cX7_terms 68 = .ok (.getfield 13, 3) := by decide +kernel
theorem dX7_terms_71 : decode cX7_terms 71 = .ok (.bipush 12, 2) := by decide +kernel
theorem dX7_terms_73 : decode cX7_terms 73 = .ok (.aload_n 0, 1) := by decide +kernel
theorem dX7_terms_74 : decode cX7_terms 74 = .ok (.getfield 47, 3) := by decide +kernel
theorem dX7_terms_77 : decode cX7_terms 77 = .ok (.imul, 1) := by decide +kernel
theorem dX7_terms_78 : decode cX7_terms 78 = .ok (.iload_n 2, 1) := by decide +kernel
theorem dX7_terms_79 : decode cX7_terms 79 = .ok (.iadd, 1) := by decide +kernel
theorem dX7_terms_80 : decode cX7_terms 80 = .ok (.aload_n 0, 1) := by decide +kernel
theorem dX7_terms_81 : decode cX7_terms 81 = .ok (.getfield 13, 3) := by decide +kernel
theorem dX7_terms_84 : decode cX7_terms 84 = .ok (.bipush 96, 2) := by decide +kernel
theorem dX7_terms_86 : decode cX7_terms 86 = .ok (.iload_n 2, 1) := by decide +kernel
theorem dX7_terms_87 : decode cX7_terms 87 = .ok (.iadd, 1) := by decide +kernel
theorem dX7_terms_88 : decode cX7_terms 88 = .ok (.iaload, 1) := by decide +kernel
theorem dX7_terms_89 : decode cX7_terms 89 = .ok (.iastore, 1) := by decide +kernel
theorem dX7_terms_90 : decode cX7_terms 90 = .ok (.iinc 2 1, 3) := by decide +kernel
theorem dX7_terms_93 : decode cX7_terms 93 = .ok (.goto (-32), 3) := by decide +kernel
theorem dX7_terms_96 : decode cX7_terms 96 = .ok (.aload_n 0, 1) := by decide +kernel
theorem dX7_terms_97 : decode cX7_terms 97 = .ok (.dup, 1) := by decide +kernel
theorem dX7_terms_98 : decode cX7_terms 98 = .ok (.getfield 47, 3) := by decide +kernel
theorem dX7_terms_101 : decode cX7_terms 101 = .ok (.iconst 1, 1) := by decide +kernel
theorem dX7_terms_102 : decode cX7_terms 102 = .ok (.iadd, 1) := by decide +kernel
theorem dX7_terms_103 : decode cX7_terms 103 = .ok (.putfield 47, 3) := by decide +kernel
theorem dX7_terms_106 : decode cX7_terms 106 = .ok (.aload_n 0, 1) := by decide +kernel
theorem dX7_terms_107 : decode cX7_terms 107 = .ok (.getfield 47, 3) := by decide +kernel
theorem dX7_terms_110 : decode cX7_terms 110 = .ok (.iconst 1, 1) := by decide +kernel
theorem dX7_terms_111 : decode cX7_terms 111 = .ok (.isub, 1) := by decide +kernel
theorem dX7_terms_112 : decode cX7_terms 112 = .ok (.ireturn, 1) := by decide +kernel
set_option maxRecDepth 20000 in
theorem ggX7_isTerms_X7_within : GoodIn wsX7_isTerms wsX7_within := goodIn_r _ [5] (by decide +kernel) (by decide +kernel)
set_option maxRecDepth 20000 in
theorem gX7_isTerms_X7_within : GoodIn wsX7_isTerms (va_wsS RX7 31 yX7_within wsX7_within) := goodIn_app (goodIn_of _ (by decide +kernel)) ggX7_isTerms_X7_within
theorem dX7_isTerms_0 : decode cX7_isTerms 0 = .ok (.iload_n 1, 1) := by decide +kernel
end
section
theorem dX7_isTerms_1 : decode cX7_isTerms 1 = .ok (.iconst 0, 1) := by decide +kernel
theorem dX7_isTerms_2 : decode cX7_isTerms 2 = .ok (.aload_n 0, 1) := by decide +kernel
theorem dX7_isTerms_3 : decode cX7_isTerms 3 = .ok (.getfield 47, 3) := by decide +kernel
theorem dX7_isTerms_6 : decode cX7_isTerms 6 = .ok (.iconst 1, 1) := by decide +kernel
theorem dX7_isTerms_7 : decode cX7_isTerms 7 = .ok (.isub, 1) := by decide +kernel
theorem dX7_isTerms_8 : decode cX7_isTerms 8 = .ok (.invokestatic 31, 3) := by decide +kernel
theorem dX7_isTerms_11 : decode cX7_isTerms 11 = .ok (.ireturn, 1) := by decide +kernel
set_option maxRecDepth 20000 in
theorem ggX7_reach_X7_isTerms : GoodIn wsX7_reach wsX7_isTerms := goodIn_r _ [6, 7, 8, 9, 5, 10, 11, 12, 13, 14, 15, 16, 17, 18, 19, 20, 21, 22, 23, 24] (by decide +kernel) (by decide +kernel)
set_option maxRecDepth 20000 in
theorem gX7_reach_X7_isTerms : GoodIn wsX7_reach (wsV RX7 53 RX7 yX7_isTerms wsX7_isTerms) := goodIn_app (goodIn_of _ (by decide +kernel)) ggX7_reach_X7_isTerms
set_option maxRecDepth 20000 in
theorem ggX7_reach_X7_within : GoodIn wsX7_reach wsX7_within := goodIn_r _ [10] (by decide +kernel) (by decide +kernel)
set_option maxRecDepth 20000 in
theorem gX7_reach_X7_within : GoodIn wsX7_reach (va_wsS RX7 31 yX7_within wsX7_within) := goodIn_app (goodIn_of _ (by decide +kernel)) ggX7_reach_X7_within
theorem dX7_reach_0 : decode cX7_reach 0 = .ok (.aload_n 0, 1) := by decide +kernel
theorem dX7_reach_1 : decode cX7_reach 1 = .ok (.iload_n 1, 1) := by decide +kernel
theorem dX7_reach_2 : decode cX7_reach 2 = .ok (.invokevirtual 53, 3) := by decide +kernel
theorem dX7_reach_5 : decode cX7_reach 5 = .ok (.ifCond .ne 7, 3) := by decide +kernel
theorem dX7_reach_8 : decode cX7_reach 8 = .ok (.sipush (-1001), 3) := by decide +kernel
theorem dX7_reach_11 : decode cX7_reach 11 = .ok (.ireturn, 1) := by decide +kernel
theorem dX7_reach_12 : decode cX7_reach 12 = .ok (.iload_n 2, 1) := by decide +kernel
theorem dX7_reach_13 : decode cX7_reach 13 = .ok (.iconst 0, 1) := by decide +kernel
theorem dX7_reach_14 : decode cX7_reach 14 = .ok (.bipush 11, 2) := by decide +kernel
theorem dX7_reach_16 : decode cX7_reach 16 = .ok (.invokestatic 31, 3) := by decide +kernel
theorem dX7_reach_19 : decode cX7_reach 19 = .ok (.ifCond .eq 17, 3) := by decide +kernel
theorem dX7_reach_22 : decode cX7_reach 22 = .ok (.aload_n 0, 1) := by decide +kernel
theorem dX7_reach_23 : decode cX7_reach 23 = .ok (.getfield 13, 3) := by decide +kernel
theorem dX7_reach_26 : decode cX7_reach 26 = .ok (.bipush 12, 2) := by decide +kernel
theorem dX7_reach_28 : decode cX7_reach 28 = .ok (.iload_n 1, 1) := by decide +kernel
theorem dX7_reach_29 : decode cX7_reach 29 = .ok (.imul, 1) := by decide +kernel
theorem dX7_reach_30 : decode cX7_reach 30 = .ok (.iload_n 2, 1) := by decide +kernel
theorem dX7_reach_31 : decode cX7_reach 31 = .ok (.iadd, 1) := by decide +kernel
theorem dX7_reach_32 : decode cX7_reach 32 = .ok (.iaload, 1) := by decide +kernel
theorem dX7_reach_33 : decode cX7_reach 33 = .ok (.goto 6, 3) := by decide +kernel
theorem dX7_reach_36 : decode cX7_reach 36 = .ok (.sipush (-1002), 3) := by decide +kernel
theorem dX7_reach_39 : decode cX7_reach 39 = .ok (.ireturn, 1) := by decide +kernel
theorem dX7_isLooser_0 : decode cX7_isLooser 0 = .ok (.iconst 1, 1) := by decide +kernel
theorem dX7_isLooser_1 : decode cX7_isLooser 1 = .ok (.istore_n 3, 1) := by decide +kernel
theorem dX7_isLooser_2 : decode cX7_isLooser 2 = .ok (.iconst 0, 1) := by decide +kernel
theorem dX7_isLooser_3 : decode cX7_isLooser 3 = .ok (.istore 4, 2) := by decide +kernel
theorem dX7_isLooser_5 : decode cX7_isLooser 5 = .ok (.iload 4, 2) := by decide +kernel
theorem dX7_isLooser_7 : decode cX7_isLooser 7 = .ok (.bipush 12, 2) := by decide +kernel
theorem dX7_isLooser_9 : decode cX7_isLooser 9 = .ok (.if_icmp .ge 46, 3) := by decide +kernel
theorem dX7_isLooser_12 : decode cX7_isLooser 12 = .ok (.iload_n 3, 1) := by decide +kernel
theorem dX7_isLooser_13 : decode cX7_isLooser 13 = .ok (.ifCond .eq 34, 3) := by decide +kernel
theorem dX7_isLooser_16 : decode cX7_isLooser 16 = .ok (.aload_n 0, 1) := by decide +kernel
theorem dX7_isLooser_17 : decode cX7_isLooser 17 = .ok (.getfield 13, 3) := by decide +kernel
theorem dX7_isLooser_20 : decode cX7_isLooser 20 = .ok (.bipush 12, 2) := by decide +kernel
theorem dX7_isLooser_22 : decode cX7_isLooser 22 = .ok (.iload_n 1, 1) := by decide +kernel
theorem dX7_isLooser_23 : decode cX7_isLooser 23 = .ok (.imul, 1) := by decide +kernel
theorem dX7_isLooser_24 : decode cX7_isLooser 24 = .ok (.iload 4, 2) := by decide +kernel
theorem dX7_isLooser_26 : decode cX7_isLooser 26 = .ok (.iadd, 1) := by decide +kernel
theorem dX7_isLooser_27 : decode cX7_isLooser 27 = .ok (.iaload, 1) := by decide +kernel
theorem dX7_isLooser_28 : decode cX7_isLooser 28 = .ok (.aload_n 0, 1) := by decide +kernel
theorem dX7_isLooser_29 : decode cX7_isLooser 29 = .ok (.getfield 13, 3) := by decide +kernel
theorem dX7_isLooser_32 : decode cX7_isLooser 32 = .ok (.bipush 12, 2) := by decide +kernel
theorem dX7_isLooser_34 : decode cX7_isLooser 34 = .ok (.iload_n 2, 1) := by decide +kernel
theorem dX7_isLooser_35 : decode cX7_isLooser 35 = .ok (.imul, 1) := by decide +kernel
theorem dX7_isLooser_36 : decode cX7_isLooser 36 = .ok (.iload 4, 2) := by decide +kernel
theorem dX7_isLooser_38 : decode cX7_isLooser 38 = .ok (.iadd, 1) := by decide +kernel
theorem dX7_isLooser_39 : decode cX7_isLooser 39 = .ok (.iaload, 1) := by decide +kernel
theorem dX7_isLooser_40 : decode cX7_isLooser 40 = .ok (.if_icmp .gt 7, 3) := by decide +kernel
theorem dX7_isLooser_43 : decode cX7_isLooser 43 = .ok (.iconst 1, 1) := by decide +kernel
theorem dX7_isLooser_44 : decode cX7_isLooser 44 = .ok (.goto 4, 3) := by decide +kernel
theorem dX7_isLooser_47 : decode cX7_isLooser 47 = .ok (.iconst 0, 1) := by decide +kernel
theorem dX7_isLooser_48 : decode cX7_isLooser 48 = .ok (.istore_n 3, 1) := by decide +kernel
theorem dX7_isLooser_49 : decode cX7_isLooser 49 = .ok (.iinc 4 1, 3) := by decide +kernel
theorem dX7_isLooser_52 : decode cX7_isLooser 52 = .ok (.goto (-47), 3) := by decide +kernel
theorem dX7_isLooser_55 : decode cX7_isLooser 55 = .ok (.iload_n 3, 1) := by decide +kernel
theorem dX7_isLooser_56 : decode cX7_isLooser 56 = .ok (.ireturn, 1) := by decide +kernel
set_option maxRecDepth 20000 in
theorem ggX7_puts_X7_likeRead : GoodIn wsX7_puts wsX7_likeRead := goodIn_r _ [6, 7, 1, 8, 9, 10, 11, 12, 13, 14, 15, 16, 17, 18, 19, 20, 21] (by decide +kernel) (by decide +kernel)
set_option maxRecDepth 20000 in
theorem gX7_puts_X7_likeRead : GoodIn wsX7_puts (wsV RX7 50 RX7 yX7_likeRead wsX7_likeRead) := goodIn_app (goodIn_of _ (by decide +kernel)) ggX7_puts_X7_likeRead
theorem dX7_puts_0 : decode cX7_puts 0 = .ok (.iconst 0, 1) := by decide +kernel
theorem dX7_puts_1 : decode cX7_puts 1 = .ok (.istore 4, 2) := by decide +kernel
theorem dX7_puts_3 : decode cX7_puts 3 = .ok (.iload 4, 2) := by decide +kernel
theorem dX7_puts_5 : decode cX7_puts 5 = .ok (.bipush 12, 2) := by decide +kernel
theorem dX7_puts_7 : decode cX7_puts 7 = .ok (.if_icmp .ge 70, 3) := by decide +kernel
theorem dX7_puts_10 : decode cX7_puts 10 = .ok (.aload_n 0, 1) := by decide +kernel
theorem dX7_puts_11 : decode cX7_puts 11 = .ok (.getfield 13, 3) := by decide +kernel
theorem dX7_puts_14 : decode cX7_puts 14 = .ok (.bipush 12, 2) := by decide +kernel
theorem dX7_puts_16 : decode cX7_puts 16 = .ok (.iload_n 1, 1) := by decide +kernel
theorem dX7_puts_17 : decode cX7_puts 17 = .ok (.imul, 1) := by decide +kernel
theorem dX7_puts_18 : decode cX7_puts 18 = .ok (.iload 4, 2) := by decide +kernel
theorem dX7_puts_20 : decode cX7_puts 20 = .ok (.iadd, 1) := by decide +kernel
theorem dX7_puts_21 : decode cX7_puts 21 = .ok (.iaload, 1) := by decide +kernel
theorem dX7_puts_22 : decode cX7_puts 22 = .ok (.istore 5, 2) := by decide +kernel
theorem dX7_puts_24 : decode cX7_puts 24 = .ok (.aload_n 0, 1) := by decide +kernel
theorem dX7_puts_25 : decode cX7_puts 25 = .ok (.getfield 13, 3) := by decide +kernel
theorem dX7_puts_28 : decode cX7_puts 28 = .ok (.bipush 12, 2) := by decide +kernel
theorem dX7_puts_30 : decode cX7_puts 30 = .ok (.iload_n 2, 1) := by decide +kernel
theorem dX7_puts_31 : decode cX7_puts 31 = .ok (.imul, 1) := by decide +kernel
theorem dX7_puts_32 : decode cX7_puts 32 = .ok (.iload 4, 2) := by decide +kernel
theorem dX7_puts_34 : decode cX7_puts 34 = .ok (.iadd, 1) := by decide +kernel
theorem dX7_puts_35 : decode cX7_puts 35 = .ok (.iaload, 1) := by decide +kernel
theorem dX7_puts_36 : decode cX7_puts 36 = .ok (.istore 6, 2) := by decide +kernel
theorem dX7_puts_38 : decode cX7_puts 38 = .ok (.aload_n 0, 1) := by decide +kernel
theorem dX7_puts_39 : decode cX7_puts 39 = .ok (.getfield 13, 3) := by decide +kernel
theorem dX7_puts_42 : decode cX7_puts 42 = .ok (.bipush 96, 2) := by decide +kernel
theorem dX7_puts_44 : decode cX7_puts 44 = .ok (.iload 4, 2) := by decide +kernel
theorem dX7_puts_46 : decode cX7_puts 46 = .ok (.iadd, 1) := by decide +kernel
theorem dX7_puts_47 : decode cX7_puts 47 = .ok (.iload 5, 2) := by decide +kernel
theorem dX7_puts_49 : decode cX7_puts 49 = .ok (.iload 6, 2) := by decide +kernel
theorem dX7_puts_51 : decode cX7_puts 51 = .ok (.if_icmp .le 7, 3) := by decide +kernel
theorem dX7_puts_54 : decode cX7_puts 54 = .ok (.iconst 1, 1) := by decide +kernel
theorem dX7_puts_55 : decode cX7_puts 55 = .ok (.goto 4, 3) := by decide +kernel
theorem dX7_puts_58 : decode cX7_puts 58 = .ok (.iconst 0, 1) := by decide +kernel
theorem dX7_puts_59 : decode cX7_puts 59 = .ok (.iload_n 3, 1) := by decide +kernel
theorem dX7_puts_60 : decode cX7_puts 60 = .ok (.if_icmp .ne 8, 3) := by decide +kernel
theorem dX7_puts_63 : decode cX7_puts 63 = .ok (.iload 5, 2) := by decide +kernel
theorem dX7_puts_65 : decode cX7_puts 65 = .ok (.goto 5, 3) := by decide +kernel
theorem dX7_puts_68 : decode cX7_puts 68 = .ok (.iload 6, 2) := by decide +kernel
theorem dX7_puts_70 : decode cX7_puts 70 = .ok (.iastore, 1) := by decide +kernel
theorem dX7_puts_71 : decode cX7_puts 71 = .ok (.iinc 4 1, 3) := by decide +kernel
theorem dX7_puts_74 : decode cX7_puts 74 = .ok (.goto (-71), 3) := by decide +kernel
theorem dX7_puts_77 : decode cX7_puts 77 = .ok (.aload_n 0, 1) := by decide +kernel
theorem dX7_puts_78 : decode cX7_puts 78 = .ok (.bipush 96, 2) := by decide +kernel
theorem dX7_puts_80 : decode cX7_puts 80 = .ok (.invokevirtual 50, 3) := by decide +kernel
theorem dX7_puts_83 : decode cX7_puts 83 = .ok (.ireturn, 1) := by decide +kernel
set_option maxRecDepth 20000 in
theorem ggX7_two_X7_isTerms : GoodIn wsX7_two wsX7_isTerms := goodIn_r _ [5, 6, 7, 8, 4, 9, 23, 24, 25, 26, 27, 28, 29, 30, 31, 32, 33, 34, 35, 36] (by decide +kernel) (by decide +kernel)
set_option maxRecDepth 20000 in
theorem gX7_two_X7_isTerms : GoodIn wsX7_two (wsV RX7 53 RX7 yX7_isTerms wsX7_isTerms) := goodIn_app (goodIn_of _ (by decide +kernel)) ggX7_two_X7_isTerms
set_option maxRecDepth 20000 in
theorem ggX7_two_X7_within : GoodIn wsX7_two wsX7_within := goodIn_r _ [9] (by decide +kernel) (by decide +kernel)
set_option maxRecDepth 20000 in
theorem gX7_two_X7_within : GoodIn wsX7_two (va_wsS RX7 31 yX7_within wsX7_within) := goodIn_app (goodIn_of _ (by decide +kernel)) ggX7_two_X7_within
set_option maxRecDepth 20000 in
theorem ggX7_two_X7_isLooser : GoodIn wsX7_two wsX7_isLooser := goodIn_r _ [13, 14, 23, 24, 25, 26, 27, 28, 29, 30, 31, 32, 33, 34, 35, 36] (by decide +kernel) (by decide +kernel)
set_option maxRecDepth 20000 in
theorem gX7_two_X7_isLooser : GoodIn wsX7_two (wsV RX7 57 RX7 yX7_isLooser wsX7_isLooser) := goodIn_app (goodIn_of _ (by decide +kernel)) ggX7_two_X7_isLooser
set_option maxRecDepth 20000 in
theorem ggX7_two_X7_puts : GoodIn wsX7_two wsX7_puts := goodIn_r _ [18, 14, 19, 20, 21, 4, 22, 6, 23, 24, 25, 26, 27, 28, 29, 30, 31, 32, 33, 34, 35, 36] (by decide +kernel) (by decide +kernel)
set_option maxRecDepth 20000 in
theorem gX7_two_X7_puts : GoodIn wsX7_two (wsV RX7 61 RX7 yX7_puts wsX7_puts) := goodIn_app (goodIn_of _ (by decide +kernel)) ggX7_two_X7_puts
theorem dX7_two_0 : decode cX7_two 0 = .ok (.aload_n 0, 1) := by decide +kernel
theorem dX7_two_1 : decode cX7_two 1 = .ok (.iload_n 1, 1) := by decide +kernel
theorem dX7_two_2 : decode cX7_two 2 = .ok (.invokevirtual 53, 3) := by decide +kernel
theorem dX7_two_5 : decode cX7_two 5 = .ok (.ifCond .eq 11, 3) := by decide +kernel
theorem dX7_two_8 : decode cX7_two 8 = .ok (.aload_n 0, 1) := by decide +kernel
theorem dX7_two_9 : decode cX7_two 9 = .ok (.iload_n 2, 1) := by decide +kernel
theorem dX7_two_10 : decode cX7_two 10 = .ok (.invokevirtual 53, 3) := by decide +kernel
theorem dX7_two_13 : decode cX7_two 13 = .ok (.ifCond .ne 7, 3) := by decide +kernel
theorem dX7_two_16 : decode cX7_two 16 = .ok (.sipush (-1001), 3) := by decide +kernel
theorem dX7_two_19 : decode cX7_two 19 = .ok (.ireturn, 1) := by decide +kernel
theorem dX7_two_20 : decode cX7_two 20 = .ok (.iload_n 3, 1) := by decide +kernel
theorem dX7_two_21 : decode cX7_two 21 = .ok (.iconst 0, 1) := by decide +kernel
theorem dX7_two_22 : decode cX7_two 22 = .ok (.iconst 2, 1) := by decide +kernel
theorem dX7_two_23 : decode cX7_two 23 = .ok (.invokestatic 31, 3) := by decide +kernel
theorem dX7_two_26 : decode cX7_two 26 = .ok (.ifCond .ne 7, 3) := by decide +kernel
theorem dX7_two_29 : decode cX7_two 29 = .ok (.sipush (-1002), 3) := by decide +kernel
theorem dX7_two_32 : decode cX7_two 32 = .ok (.ireturn, 1) := by decide +kernel
theorem dX7_two_33 : decode cX7_two 33 = .ok (.iload_n 3, 1) := by decide +kernel
theorem dX7_two_34 : decode cX7_two 34 = .ok (.ifCond .ne 33, 3) := by decide +kernel
theorem dX7_two_37 : decode cX7_two 37 = .ok (.aload_n 0, 1) := by decide +kernel
theorem dX7_two_38 : decode cX7_two 38 = .ok (.iload_n 1, 1) := by decide +kernel
theorem dX7_two_39 : decode cX7_two 39 = .ok (.iload_n 2, 1) := by decide +kernel
theorem dX7_two_40 : decode cX7_two 40 = .ok (.invokevirtual 57, 3) := by decide +kernel
theorem dX7_two_43 : decode cX7_two 43 = .ok (.ifCond .eq 7, 3) := by decide +kernel
theorem dX7_two_46 : decode cX7_two 46 = .ok (.iconst 1, 1) := by decide +kernel
theorem dX7_two_47 : decode cX7_two 47 = .ok (.goto 4, 3) := by decide +kernel
theorem dX7_two_50 : decode cX7_two 50 = .ok (.iconst 0, 1) := by decide +kernel
theorem dX7_two_51 : decode cX7_two 51 = .ok (.aload_n 0, 1) := by decide +kernel
theorem dX7_two_52 : decode cX7_two 52 = .ok (.iload_n 2, 1) := by decide +kernel
theorem dX7_two_53 : decode cX7_two 53 = .ok (.iload_n 1, 1) := by decide +kernel
theorem dX7_two_54 : decode cX7_two 54 = .ok (.invokevirtual 57, 3) := by decide +kernel
theorem dX7_two_57 : decode cX7_two 57 = .ok (.ifCond .eq 7, 3) := by decide +kernel
theorem dX7_two_60 : decode cX7_two 60 = .ok (.iconst 2, 1) := by decide +kernel
theorem dX7_two_61 : decode cX7_two 61 = .ok (.goto 4, 3) := by decide +kernel
theorem dX7_two_64 : decode cX7_two 64 = .ok (.iconst 0, 1) := by decide +kernel
theorem dX7_two_65 : decode cX7_two 65 = .ok (.iadd, 1) := by decide +kernel
theorem dX7_two_66 : decode cX7_two 66 = .ok (.ireturn, 1) := by decide +kernel
theorem dX7_two_67 : decode cX7_two 67 = .ok (.aload_n 0, 1) := by decide +kernel
theorem dX7_two_68 : decode cX7_two 68 = .ok (.iload_n 1, 1) := by decide +kernel
theorem dX7_two_69 : decode cX7_two 69 = .ok (.iload_n 2, 1) := by decide +kernel
theorem dX7_two_70 : decode cX7_two 70 = .ok (.iload_n 3, 1) := by decide +kernel
theorem dX7_two_71 : decode cX7_two 71 = .ok (.iconst 1, 1) := by decide +kernel
theorem dX7_two_72 : decode cX7_two 72 = .ok (.if_icmp .ne 7, 3) := by decide +kernel
theorem dX7_two_75 : decode cX7_two 75 = .ok (.iconst 1, 1) := by decide +kernel
theorem dX7_two_76 : decode cX7_two 76 = .ok (.goto 4, 3) := by decide +kernel
theorem dX7_two_79 : decode cX7_two 79 = .ok (.iconst 0, 1) := by decide +kernel
theorem dX7_two_80 : decode cX7_two 80 = .ok (.invokevirtual 61, 3) := by decide +kernel
theorem dX7_two_83 : decode cX7_two 83 = .ok (.ireturn, 1) := by decide +kernel
set_option maxRecDepth 20000 in
theorem ggX7_isPart_X7_within : GoodIn wsX7_isPart wsX7_within := goodIn_r _ [5] (by decide +kernel) (by decide +kernel)
set_option maxRecDepth 20000 in
theorem gX7_isPart_X7_within : GoodIn wsX7_isPart (va_wsS RX7 31 yX7_within wsX7_within) := goodIn_app (goodIn_of _ (by decide +kernel)) ggX7_isPart_X7_within
set_option maxRecDepth 20000 in
theorem ggX7_isPart_X7_has : GoodIn wsX7_isPart wsX7_has := goodIn_r _ [8] (by decide +kernel) (by decide +kernel)
set_option maxRecDepth 20000 in
theorem gX7_isPart_X7_has : GoodIn wsX7_isPart (va_wsS RX7 68 yX7_has wsX7_has) := goodIn_app (goodIn_of _ (by decide +kernel)) ggX7_isPart_X7_has
theorem dX7_isPart_0 : decode cX7_isPart 0 = .ok (.iload_n 1, 1) := by decide +kernel
theorem dX7_isPart_1 : decode cX7_isPart 1 = .ok (.iconst 0, 1) := by decide +kernel
theorem dX7_isPart_2 : decode cX7_isPart 2 = .ok (.bipush 7, 2) := by decide +kernel
theorem dX7_isPart_4 : decode cX7_isPart 4 = .ok (.invokestatic 31, 3) := by decide +kernel
theorem dX7_isPart_7 : decode cX7_isPart 7 = .ok (.ifCond .eq 18, 3) := by decide +kernel
theorem dX7_isPart_10 : decode cX7_isPart 10 = .ok (.aload_n 0, 1) := by decide +kernel
theorem dX7_isPart_11 : decode cX7_isPart 11 = .ok (.getfield 65, 3) := by decide +kernel
theorem dX7_isPart_14 : decode cX7_isPart 14 = .ok (.iload_n 1, 1) := by decide +kernel
theorem dX7_isPart_15 : decode cX7_isPart 15 = .ok (.invokestatic 68, 3) := by decide +kernel
theorem dX7_isPart_18 : decode cX7_isPart 18 = .ok (.ifCond .eq 7, 3) := by decide +kernel
theorem dX7_isPart_21 : decode cX7_isPart 21 = .ok (.iconst 1, 1) := by decide +kernel
theorem dX7_isPart_22 : decode cX7_isPart 22 = .ok (.goto 4, 3) := by decide +kernel
theorem dX7_isPart_25 : decode cX7_isPart 25 = .ok (.iconst 0, 1) := by decide +kernel
theorem dX7_isPart_26 : decode cX7_isPart 26 = .ok (.ireturn, 1) := by decide +kernel
set_option maxRecDepth 20000 in
theorem ggX7_part_X7_isTerms : GoodIn wsX7_part wsX7_isTerms := goodIn_r _ [8, 9, 10, 11, 7, 12, 16, 17, 18, 19, 20, 21, 22, 23, 24, 25, 26, 27, 28, 29] (by decide +kernel) (by decide +kernel)
set_option maxRecDepth 20000 in
theorem gX7_part_X7_isTerms : GoodIn wsX7_part (wsV RX7 53 RX7 yX7_isTerms wsX7_isTerms) := goodIn_app (goodIn_of _ (by decide +kernel)) ggX7_part_X7_isTerms
set_option maxRecDepth 20000 in
theorem ggX7_part_X7_has : GoodIn wsX7_part wsX7_has := goodIn_r _ [15] (by decide +kernel) (by decide +kernel)
set_option maxRecDepth 20000 in
theorem gX7_part_X7_has : GoodIn wsX7_part (va_wsS RX7 68 yX7_has wsX7_has) := goodIn_app (goodIn_of _ (by decide +kernel)) ggX7_part_X7_has
theorem dX7_part_0 : decode cX7_part 0 = .ok (.aload_n 0, 1) := by decide +kernel
theorem dX7_part_1 : decode cX7_part 1 = .ok (.iload_n 1, 1) := by decide +kernel
theorem dX7_part_2 : decode cX7_part 2 = .ok (.invokevirtual 53, 3) := by decide +kernel
theorem dX7_part_5 : decode cX7_part 5 = .ok (.ifCond .ne 7, 3) := by decide +kernel
theorem dX7_part_8 : decode cX7_part 8 = .ok (.sipush (-1001), 3) := by decide +kernel
theorem dX7_part_11 : decode cX7_part 11 = .ok (.ireturn, 1) := by decide +kernel
theorem dX7_part_12 : decode cX7_part 12 = .ok (.aload_n 0, 1) := by decide +kernel
theorem dX7_part_13 : decode cX7_part 13 = .ok (.getfield 65, 3) := by decide +kernel
theorem dX7_part_16 : decode cX7_part 16 = .ok (.sipush 255, 3) := by decide +kernel
theorem dX7_part_19 : decode cX7_part 19 = .ok (.if_icmp .ne 7, 3) := by decide +kernel
theorem dX7_part_22 : decode cX7_part 22 = .ok (.sipush (-1004), 3) := by decide +kernel
theorem dX7_part_25 : decode cX7_part 25 = .ok (.ireturn, 1) := by decide +kernel
theorem dX7_part_26 : decode cX7_part 26 = .ok (.iconst 0, 1) := by decide +kernel
theorem dX7_part_27 : decode cX7_part 27 = .ok (.istore_n 2, 1) := by decide +kernel
theorem dX7_part_28 : decode cX7_part 28 = .ok (.aload_n 0, 1) := by decide +kernel
theorem dX7_part_29 : decode cX7_part 29 = .ok (.getfield 65, 3) := by decide +kernel
theorem dX7_part_32 : decode cX7_part 32 = .ok (.iload_n 2, 1) := by decide +kernel
theorem dX7_part_33 : decode cX7_part 33 = .ok (.invokestatic 68, 3) := by decide +kernel
theorem dX7_part_36 : decode cX7_part 36 = .ok (.ifCond .eq 9, 3) := by decide +kernel
theorem dX7_part_39 : decode cX7_part 39 = .ok (.iinc 2 1, 3) := by decide +kernel
theorem dX7_part_42 : decode cX7_part 42 = .ok (.goto (-14), 3) := by decide +kernel
theorem dX7_part_45 : decode cX7_part 45 = .ok (.aload_n 0, 1) := by decide +kernel
theorem dX7_part_46 : decode cX7_part 46 = .ok (.dup, 1) := by decide +kernel
theorem dX7_part_47 : decode cX7_part 47 = .ok (.getfield 65, 3) := by decide +kernel
theorem dX7_part_50 : decode cX7_part 50 = .ok (.iconst 1, 1) := by decide +kernel
theorem dX7_part_51 : decode cX7_part 51 = .ok (.iload_n 2, 1) := by decide +kernel
theorem dX7_part_52 : decode cX7_part 52 = .ok (.ishl, 1) := by decide +kernel
theorem dX7_part_53 : decode cX7_part 53 = .ok (.ior, 1) := by decide +kernel
theorem dX7_part_54 : decode cX7_part 54 = .ok (.putfield 65, 3) := by decide +kernel
theorem dX7_part_57 : decode cX7_part 57 = .ok (.aload_n 0, 1) := by decide +kernel
theorem dX7_part_58 : decode cX7_part 58 = .ok (.getfield 16, 3) := by decide +kernel
theorem dX7_part_61 : decode cX7_part 61 = .ok (.iload_n 2, 1) := by decide +kernel
theorem dX7_part_62 : decode cX7_part 62 = .ok (.iload_n 1, 1) := by decide +kernel
theorem dX7_part_63 : decode cX7_part 63 = .ok (.iastore, 1) := by decide +kernel
theorem dX7_part_64 : decode cX7_part 64 = .ok (.iconst 0, 1) := by decide +kernel
theorem dX7_part_65 : decode cX7_part 65 = .ok (.istore_n 3, 1) := by decide +kernel
theorem dX7_part_66 : decode cX7_part 66 = .ok (.iload_n 3, 1) := by decide +kernel
theorem dX7_part_67 : decode cX7_part 67 = .ok (.bipush 8, 2) := by decide +kernel
theorem dX7_part_69 : decode cX7_part 69 = .ok (.if_icmp .ge 33, 3) := by decide +kernel
theorem dX7_part_72 : decode cX7_part 72 = .ok (.aload_n 0, 1) := by decide +kernel
theorem dX7_part_73 : decode cX7_part 73 = .ok (.getfield 19, 3) := by decide +kernel
theorem dX7_part_76 : decode cX7_part 76 = .ok (.bipush 8, 2) := by decide +kernel
theorem dX7_part_78 : decode cX7_part 78 = .ok (.iload_n 2, 1) := by decide +kernel
theorem dX7_part_79 : decode cX7_part 79 = .ok (.imul, 1) := by decide +kernel
theorem dX7_part_80 : decode cX7_part 80 = .ok (.iload_n 3, 1) := by decide +kernel
theorem dX7_part_81 : decode cX7_part 81 = .ok (.iadd, 1) := by decide +kernel
theorem dX7_part_82 : decode cX7_part 82 = .ok (.iconst (-1), 1) := by decide +kernel
theorem dX7_part_83 : decode cX7_part 83 = .ok (.iastore, 1) := by decide +kernel
theorem dX7_part_84 : decode cX7_part 84 = .ok (.aload_n 0, 1) := by decide +kernel
theorem dX7_part_85 : decode cX7_part 85 = .ok (.getfield 19, 3) := by decide +kernel
theorem dX7_part_88 : decode cX7_part 88 = .ok (.bipush 8, 2) := by decide +kernel
theorem dX7_part_90 : decode cX7_part 90 = .ok (.iload_n 3, 1) := by decide +kernel
theorem dX7_part_91 : decode cX7_part 91 = .ok (.imul, 1) := by decide +kernel
theorem dX7_part_92 : decode cX7_part 92 = .ok (.iload_n 2, 1) := by decide +kernel
theorem dX7_part_93 : decode cX7_part 93 = .ok (.iadd, 1) := by decide +kernel
theorem dX7_part_94 : decode cX7_part 94 = .ok (.iconst (-1), 1) := by decide +kernel
theorem dX7_part_95 : decode cX7_part 95 = .ok (.iastore, 1) := by decide +kernel
theorem dX7_part_96 : decode cX7_part 96 = .ok (.iinc 3 1, 3) := by decide +kernel
theorem dX7_part_99 : decode cX7_part 99 = .ok (.goto (-33), 3) := by decide +kernel
theorem dX7_part_102 : decode cX7_part 102 = .ok (.iload_n 2, 1) := by decide +kernel
theorem dX7_part_103 : decode cX7_part 103 = .ok (.ireturn, 1) := by decide +kernel
set_option maxRecDepth 20000 in
theorem ggX7_give_X7_isPart : GoodIn wsX7_give wsX7_isPart := goodIn_r _ [6, 7, 8, 9, 5, 10, 11, 12, 13, 19, 20, 21, 22, 23, 24, 25, 26, 27, 28, 29, 30, 31, 32] (by decide +kernel) (by decide +kernel)
set_option maxRecDepth 20000 in
theorem gX7_give_X7_isPart : GoodIn wsX7_give (wsV RX7 71 RX7 yX7_isPart wsX7_isPart) := goodIn_app (goodIn_of _ (by decide +kernel)) ggX7_give_X7_isPart
set_option maxRecDepth 20000 in
theorem ggX7_give_X7_isTerms : GoodIn wsX7_give wsX7_isTerms := goodIn_r _ [17, 18, 8, 9, 5, 10, 19, 20, 21, 22, 23, 24, 25, 26, 27, 28, 29, 30, 31, 32] (by decide +kernel) (by decide +kernel)
set_option maxRecDepth 20000 in
theorem gX7_give_X7_isTerms : GoodIn wsX7_give (wsV RX7 53 RX7 yX7_isTerms wsX7_isTerms) := goodIn_app (goodIn_of _ (by decide +kernel)) ggX7_give_X7_isTerms
theorem dX7_give_0 : decode cX7_give 0 = .ok (.aload_n 0, 1) := by decide +kernel
theorem dX7_give_1 : decode cX7_give 1 = .ok (.iload_n 1, 1) := by decide +kernel
theorem dX7_give_2 : decode cX7_give 2 = .ok (.invokevirtual 71, 3) := by decide +kernel
theorem dX7_give_5 : decode cX7_give 5 = .ok (.ifCond .eq 11, 3) := by decide +kernel
theorem dX7_give_8 : decode cX7_give 8 = .ok (.aload_n 0, 1) := by decide +kernel
theorem dX7_give_9 : decode cX7_give 9 = .ok (.iload_n 2, 1) := by decide +kernel
theorem dX7_give_10 : decode cX7_give 10 = .ok (.invokevirtual 53, 3) := by decide +kernel
theorem dX7_give_13 : decode cX7_give 13 = .ok (.ifCond .ne 7, 3) := by decide +kernel
theorem dX7_give_16 : decode cX7_give 16 = .ok (.sipush (-1001), 3) := by decide +kernel
theorem dX7_give_19 : decode cX7_give 19 = .ok (.ireturn, 1) := by decide +kernel
theorem dX7_give_20 : decode cX7_give 20 = .ok (.aload_n 0, 1) := by decide +kernel
theorem dX7_give_21 : decode cX7_give 21 = .ok (.getfield 16, 3) := by decide +kernel
theorem dX7_give_24 : decode cX7_give 24 = .ok (.iload_n 1, 1) := by decide +kernel
theorem dX7_give_25 : decode cX7_give 25 = .ok (.iaload, 1) := by decide +kernel
theorem dX7_give_26 : decode cX7_give 26 = .ok (.istore_n 3, 1) := by decide +kernel
theorem dX7_give_27 : decode cX7_give 27 = .ok (.aload_n 0, 1) := by decide +kernel
theorem dX7_give_28 : decode cX7_give 28 = .ok (.getfield 16, 3) := by decide +kernel
theorem dX7_give_31 : decode cX7_give 31 = .ok (.iload_n 1, 1) := by decide +kernel
theorem dX7_give_32 : decode cX7_give 32 = .ok (.iload_n 2, 1) := by decide +kernel
theorem dX7_give_33 : decode cX7_give 33 = .ok (.iastore, 1) := by decide +kernel
theorem dX7_give_34 : decode cX7_give 34 = .ok (.iload_n 3, 1) := by decide +kernel
theorem dX7_give_35 : decode cX7_give 35 = .ok (.ireturn, 1) := by decide +kernel
set_option maxRecDepth 20000 in
theorem ggX7_usesOf_X7_has : GoodIn wsX7_usesOf wsX7_has := goodIn_r _ [6] (by decide +kernel) (by decide +kernel)
set_option maxRecDepth 20000 in
theorem gX7_usesOf_X7_has : GoodIn wsX7_usesOf (va_wsS RX7 68 yX7_has wsX7_has) := goodIn_app (goodIn_of _ (by decide +kernel)) ggX7_usesOf_X7_has
theorem dX7_usesOf_0 : decode cX7_usesOf 0 = .ok (.iconst 0, 1) := by decide +kernel
theorem dX7_usesOf_1 : decode cX7_usesOf 1 = .ok (.istore_n 2, 1) := by decide +kernel
theorem dX7_usesOf_2 : decode cX7_usesOf 2 = .ok (.iconst 0, 1) := by decide +kernel
theorem dX7_usesOf_3 : decode cX7_usesOf 3 = .ok (.istore_n 3, 1) := by decide +kernel
theorem dX7_usesOf_4 : decode cX7_usesOf 4 = .ok (.iload_n 3, 1) := by decide +kernel
theorem dX7_usesOf_5 : decode cX7_usesOf 5 = .ok (.bipush 8, 2) := by decide +kernel
theorem dX7_usesOf_7 : decode cX7_usesOf 7 = .ok (.if_icmp .ge 43, 3) := by decide +kernel
theorem dX7_usesOf_10 : decode cX7_usesOf 10 = .ok (.iload_n 2, 1) := by decide +kernel
theorem dX7_usesOf_11 : decode cX7_usesOf 11 = .ok (.aload_n 0, 1) := by decide +kernel
theorem dX7_usesOf_12 : decode cX7_usesOf 12 = .ok (.getfield 65, 3) := by decide +kernel
theorem dX7_usesOf_15 : decode cX7_usesOf 15 = .ok (.iload_n 3, 1) := by decide +kernel
theorem dX7_usesOf_16 : decode cX7_usesOf 16 = .ok (.invokestatic 68, 3) := by decide +kernel
theorem dX7_usesOf_19 : decode cX7_usesOf 19 = .ok (.ifCond .eq 22, 3) := by decide +kernel
theorem dX7_usesOf_22 : decode cX7_usesOf 22 = .ok (.aload_n 0, 1) := by decide +kernel
theorem dX7_usesOf_23 : decode cX7_usesOf 23 = .ok (.getfield 19, 3) := by decide +kernel
theorem dX7_usesOf_26 : decode cX7_usesOf 26 = .ok (.bipush 8, 2) := by decide +kernel
theorem dX7_usesOf_28 : decode cX7_usesOf 28 = .ok (.iload_n 1, 1) := by decide +kernel
theorem dX7_usesOf_29 : decode cX7_usesOf 29 = .ok (.imul, 1) := by decide +kernel
theorem dX7_usesOf_30 : decode cX7_usesOf 30 = .ok (.iload_n 3, 1) := by decide +kernel
theorem dX7_usesOf_31 : decode cX7_usesOf 31 = .ok (.iadd, 1) := by decide +kernel
theorem dX7_usesOf_32 : decode cX7_usesOf 32 = .ok (.iaload, 1) := by decide +kernel
theorem dX7_usesOf_33 : decode cX7_usesOf 33 = .ok (.iconst (-1), 1) := by decide +kernel
theorem dX7_usesOf_34 : decode cX7_usesOf 34 = .ok (.if_icmp .eq 7, 3) := by decide +kernel
theorem dX7_usesOf_37 : decode cX7_usesOf 37 = .ok (.iconst 1, 1) := by decide +kernel
theorem dX7_usesOf_38 : decode cX7_usesOf 38 = .ok (.goto 4, 3) := by decide +kernel
theorem dX7_usesOf_41 : decode cX7_usesOf 41 = .ok (.iconst 0, 1) := by decide +kernel
theorem dX7_usesOf_42 : decode cX7_usesOf 42 = .ok (.iadd, 1) := by decide +kernel
theorem dX7_usesOf_43 : decode cX7_usesOf 43 = .ok (.istore_n 2, 1) := by decide +kernel
theorem dX7_usesOf_44 : decode cX7_usesOf 44 = .ok (.iinc 3 1, 3) := by decide +kernel
theorem dX7_usesOf_47 : decode cX7_usesOf 47 = .ok (.goto (-43), 3) := by decide +kernel
theorem dX7_usesOf_50 : decode cX7_usesOf 50 = .ok (.iload_n 2, 1) := by decide +kernel
theorem dX7_usesOf_51 : decode cX7_usesOf 51 = .ok (.ireturn, 1) := by decide +kernel
set_option maxRecDepth 20000 in
theorem ggX7_usersOf_X7_has : GoodIn wsX7_usersOf wsX7_has := goodIn_r _ [6] (by decide +kernel) (by decide +kernel)
set_option maxRecDepth 20000 in
theorem gX7_usersOf_X7_has : GoodIn wsX7_usersOf (va_wsS RX7 68 yX7_has wsX7_has) := goodIn_app (goodIn_of _ (by decide +kernel)) ggX7_usersOf_X7_has
theorem dX7_usersOf_0 : decode cX7_usersOf 0 = .ok (.iconst 0, 1) := by decide +kernel
theorem dX7_usersOf_1 : decode cX7_usersOf 1 = .ok (.istore_n 2, 1) := by decide +kernel
theorem dX7_usersOf_2 : decode cX7_usersOf 2 = .ok (.iconst 0, 1) := by decide +kernel
theorem dX7_usersOf_3 : decode cX7_usersOf 3 = .ok (.istore_n 3, 1) := by decide +kernel
theorem dX7_usersOf_4 : decode cX7_usersOf 4 = .ok (.iload_n 3, 1) := by decide +kernel
theorem dX7_usersOf_5 : decode cX7_usersOf 5 = .ok (.bipush 8, 2) := by decide +kernel
theorem dX7_usersOf_7 : decode cX7_usersOf 7 = .ok (.if_icmp .ge 43, 3) := by decide +kernel
theorem dX7_usersOf_10 : decode cX7_usersOf 10 = .ok (.iload_n 2, 1) := by decide +kernel
theorem dX7_usersOf_11 : decode cX7_usersOf 11 = .ok (.aload_n 0, 1) := by decide +kernel
theorem dX7_usersOf_12 : decode cX7_usersOf 12 = .ok (.getfield 65, 3) := by decide +kernel
theorem dX7_usersOf_15 : decode cX7_usersOf 15 = .ok (.iload_n 3, 1) := by decide +kernel
theorem dX7_usersOf_16 : decode cX7_usersOf 16 = .ok (.invokestatic 68, 3) := by decide +kernel
theorem dX7_usersOf_19 : decode cX7_usersOf 19 = .ok (.ifCond .eq 22, 3) := by decide +kernel
theorem dX7_usersOf_22 : decode cX7_usersOf 22 = .ok (.aload_n 0, 1) := by decide +kernel
theorem dX7_usersOf_23 : decode cX7_usersOf 23 = .ok (.getfield 19, 3) := by decide +kernel
theorem dX7_usersOf_26 : decode cX7_usersOf 26 = .ok (.bipush 8, 2) := by decide +kernel
theorem dX7_usersOf_28 : decode cX7_usersOf 28 = .ok (.iload_n 3, 1) := by decide +kernel
theorem dX7_usersOf_29 : decode cX7_usersOf 29 = .ok (.imul, 1) := by decide +kernel
theorem dX7_usersOf_30 : decode cX7_usersOf 30 = .ok (.iload_n 1, 1) := by decide +kernel
theorem dX7_usersOf_31 : decode cX7_usersOf 31 = .ok (.iadd, 1) := by decide +kernel
theorem dX7_usersOf_32 : decode cX7_usersOf 32 = .ok (.iaload, 1) := by decide +kernel
theorem dX7_usersOf_33 : decode cX7_usersOf 33 = .ok (.iconst (-1), 1) := by decide +kernel
theorem dX7_usersOf_34 : decode cX7_usersOf 34 = .ok (.if_icmp .eq 7, 3) := by decide +kernel
theorem dX7_usersOf_37 : decode cX7_usersOf 37 = .ok (.iconst 1, 1) := by decide +kernel
theorem dX7_usersOf_38 : decode cX7_usersOf 38 = .ok (.goto 4, 3) := by decide +kernel
theorem dX7_usersOf_41 : decode cX7_usersOf 41 = .ok (.iconst 0, 1) := by decide +kernel
theorem dX7_usersOf_42 : decode cX7_usersOf 42 = .ok (.iadd, 1) := by decide +kernel
theorem dX7_usersOf_43 : decode cX7_usersOf 43 = .ok (.istore_n 2, 1) := by decide +kernel
theorem dX7_usersOf_44 : decode cX7_usersOf 44 = .ok (.iinc 3 1, 3) := by decide +kernel
theorem dX7_usersOf_47 : decode cX7_usersOf 47 = .ok (.goto (-43), 3) := by decide +kernel
theorem dX7_usersOf_50 : decode cX7_usersOf 50 = .ok (.iload_n 2, 1) := by decide +kernel
theorem dX7_usersOf_51 : decode cX7_usersOf 51 = .ok (.ireturn, 1) := by decide +kernel
set_option maxRecDepth 20000 in
theorem ggX7_leave_X7_isPart : GoodIn wsX7_leave wsX7_isPart := goodIn_r _ [7, 1, 8, 9, 6, 10, 11, 12, 13, 23, 24, 25, 26, 27, 28, 29, 30, 31, 32, 33, 34, 35, 36] (by decide +kernel) (by decide +kernel)
set_option maxRecDepth 20000 in
theorem gX7_leave_X7_isPart : GoodIn wsX7_leave (wsV RX7 71 RX7 yX7_isPart wsX7_isPart) := goodIn_app (goodIn_of _ (by decide +kernel)) ggX7_leave_X7_isPart
set_option maxRecDepth 20000 in
theorem ggX7_leave_X7_usesOf : GoodIn wsX7_leave wsX7_usesOf := goodIn_r _ [17, 1, 18, 11, 12, 6, 13, 23, 24, 25, 26, 27, 28, 29, 30, 31, 32, 33, 34, 35, 36] (by decide +kernel) (by decide +kernel)
set_option maxRecDepth 20000 in
theorem gX7_leave_X7_usesOf : GoodIn wsX7_leave (wsV RX7 74 RX7 yX7_usesOf wsX7_usesOf) := goodIn_app (goodIn_of _ (by decide +kernel)) ggX7_leave_X7_usesOf
set_option maxRecDepth 20000 in
theorem ggX7_leave_X7_usersOf : GoodIn wsX7_leave wsX7_usersOf := goodIn_r _ [22, 1, 18, 11, 12, 6, 13, 23, 24, 25, 26, 27, 28, 29, 30, 31, 32, 33, 34, 35, 36] (by decide +kernel) (by decide +kernel)
set_option maxRecDepth 20000 in
theorem gX7_leave_X7_usersOf : GoodIn wsX7_leave (wsV RX7 77 RX7 yX7_usersOf wsX7_usersOf) := goodIn_app (goodIn_of _ (by decide +kernel)) ggX7_leave_X7_usersOf
theorem dX7_leave_0 : decode cX7_leave 0 = .ok (.aload_n 0, 1) := by decide +kernel
theorem dX7_leave_1 : decode cX7_leave 1 = .ok (.iload_n 1, 1) := by decide +kernel
theorem dX7_leave_2 : decode cX7_leave 2 = .ok (.invokevirtual 71, 3) := by decide +kernel
theorem dX7_leave_5 : decode cX7_leave 5 = .ok (.ifCond .ne 7, 3) := by decide +kernel
theorem dX7_leave_8 : decode cX7_leave 8 = .ok (.sipush (-1001), 3) := by decide +kernel
theorem dX7_leave_11 : decode cX7_leave 11 = .ok (.ireturn, 1) := by decide +kernel
theorem dX7_leave_12 : decode cX7_leave 12 = .ok (.aload_n 0, 1) := by decide +kernel
theorem dX7_leave_13 : decode cX7_leave 13 = .ok (.iload_n 1, 1) := by decide +kernel
theorem dX7_leave_14 : decode cX7_leave 14 = .ok (.invokevirtual 74, 3) := by decide +kernel
theorem dX7_leave_17 : decode cX7_leave 17 = .ok (.aload_n 0, 1) := by decide +kernel
theorem dX7_leave_18 : decode cX7_leave 18 = .ok (.iload_n 1, 1) := by decide +kernel
theorem dX7_leave_19 : decode cX7_leave 19 = .ok (.invokevirtual 77, 3) := by decide +kernel
theorem dX7_leave_22 : decode cX7_leave 22 = .ok (.iadd, 1) := by decide +kernel
theorem dX7_leave_23 : decode cX7_leave 23 = .ok (.istore_n 2, 1) := by decide +kernel
theorem dX7_leave_24 : decode cX7_leave 24 = .ok (.aload_n 0, 1) := by decide +kernel
theorem dX7_leave_25 : decode cX7_leave 25 = .ok (.dup, 1) := by decide +kernel
theorem dX7_leave_26 : decode cX7_leave 26 = .ok (.getfield 65, 3) := by decide +kernel
theorem dX7_leave_29 : decode cX7_leave 29 = .ok (.iconst 1, 1) := by decide +kernel
theorem dX7_leave_30 : decode cX7_leave 30 = .ok (.iload_n 1, 1) := by decide +kernel
theorem dX7_leave_31 : decode cX7_leave 31 = .ok (.ishl, 1) := by decide +kernel
theorem dX7_leave_32 : decode cX7_leave 32 = .ok (.iconst (-1), 1) := by decide +kernel
theorem dX7_leave_33 : decode cX7_leave 33 = .ok (.ixor, 1) := by decide +kernel
theorem dX7_leave_34 : decode cX7_leave 34 = .ok (.iand, 1) := by decide +kernel
theorem dX7_leave_35 : decode cX7_leave 35 = .ok (.putfield 65, 3) := by decide +kernel
theorem dX7_leave_38 : decode cX7_leave 38 = .ok (.aload_n 0, 1) := by decide +kernel
theorem dX7_leave_39 : decode cX7_leave 39 = .ok (.dup, 1) := by decide +kernel
theorem dX7_leave_40 : decode cX7_leave 40 = .ok (.getfield 80, 3) := by decide +kernel
theorem dX7_leave_43 : decode cX7_leave 43 = .ok (.iconst 1, 1) := by decide +kernel
theorem dX7_leave_44 : decode cX7_leave 44 = .ok (.iadd, 1) := by decide +kernel
theorem dX7_leave_45 : decode cX7_leave 45 = .ok (.putfield 80, 3) := by decide +kernel
theorem dX7_leave_48 : decode cX7_leave 48 = .ok (.iload_n 2, 1) := by decide +kernel
theorem dX7_leave_49 : decode cX7_leave 49 = .ok (.ireturn, 1) := by decide +kernel
set_option maxRecDepth 20000 in
theorem ggX7_join_X7_isPart : GoodIn wsX7_join wsX7_isPart := goodIn_r _ [6, 7, 8, 9, 5, 10, 11, 12, 13, 14, 15, 16, 17, 18, 19, 20, 21, 22, 23, 24, 25, 26, 27] (by decide +kernel) (by decide +kernel)
set_option maxRecDepth 20000 in
theorem gX7_join_X7_isPart : GoodIn wsX7_join (wsV RX7 71 RX7 yX7_isPart wsX7_isPart) := goodIn_app (goodIn_of _ (by decide +kernel)) ggX7_join_X7_isPart
set_option maxRecDepth 20000 in
theorem ggX7_join_X7_within : GoodIn wsX7_join wsX7_within := goodIn_r _ [10] (by decide +kernel) (by decide +kernel)
set_option maxRecDepth 20000 in
theorem gX7_join_X7_within : GoodIn wsX7_join (va_wsS RX7 31 yX7_within wsX7_within) := goodIn_app (goodIn_of _ (by decide +kernel)) ggX7_join_X7_within
theorem dX7_join_0 : decode cX7_join 0 = .ok (.aload_n 0, 1) := by decide +kernel
theorem dX7_join_1 : decode cX7_join 1 = .ok (.iload_n 1, 1) := by decide +kernel
theorem dX7_join_2 : decode cX7_join 2 = .ok (.invokevirtual 71, 3) := by decide +kernel
theorem dX7_join_5 : decode cX7_join 5 = .ok (.ifCond .eq 16, 3) := by decide +kernel
theorem dX7_join_8 : decode cX7_join 8 = .ok (.aload_n 0, 1) := by decide +kernel
theorem dX7_join_9 : decode cX7_join 9 = .ok (.iload_n 2, 1) := by decide +kernel
theorem dX7_join_10 : decode cX7_join 10 = .ok (.invokevirtual 71, 3) := by decide +kernel
theorem dX7_join_13 : decode cX7_join 13 = .ok (.ifCond .eq 8, 3) := by decide +kernel
theorem dX7_join_16 : decode cX7_join 16 = .ok (.iload_n 1, 1) := by decide +kernel
theorem dX7_join_17 : decode cX7_join 17 = .ok (.iload_n 2, 1) := by decide +kernel
theorem dX7_join_18 : decode cX7_join 18 = .ok (.if_icmp .ne 7, 3) := by decide +kernel
theorem dX7_join_21 : decode cX7_join 21 = .ok (.sipush (-1001), 3) := by decide +kernel
theorem dX7_join_24 : decode cX7_join 24 = .ok (.ireturn, 1) := by decide +kernel
theorem dX7_join_25 : decode cX7_join 25 = .ok (.iload_n 3, 1) := by decide +kernel
theorem dX7_join_26 : decode cX7_join 26 = .ok (.iconst (-1), 1) := by decide +kernel
theorem dX7_join_27 : decode cX7_join 27 = .ok (.iconst 3, 1) := by decide +kernel
theorem dX7_join_28 : decode cX7_join 28 = .ok (.invokestatic 31, 3) := by decide +kernel
theorem dX7_join_31 : decode cX7_join 31 = .ok (.ifCond .ne 7, 3) := by decide +kernel
theorem dX7_join_34 : decode cX7_join 34 = .ok (.sipush (-1002), 3) := by decide +kernel
theorem dX7_join_37 : decode cX7_join 37 = .ok (.ireturn, 1) := by decide +kernel
theorem dX7_join_38 : decode cX7_join 38 = .ok (.aload_n 0, 1) := by decide +kernel
theorem dX7_join_39 : decode cX7_join 39 = .ok (.getfield 19, 3) := by decide +kernel
theorem dX7_join_42 : decode cX7_join 42 = .ok (.bipush 8, 2) := by decide +kernel
theorem dX7_join_44 : decode cX7_join 44 = .ok (.iload_n 1, 1) := by decide +kernel
theorem dX7_join_45 : decode cX7_join 45 = .ok (.imul, 1) := by decide +kernel
theorem dX7_join_46 : decode cX7_join 46 = .ok (.iload_n 2, 1) := by decide +kernel
theorem dX7_join_47 : decode cX7_join 47 = .ok (.iadd, 1) := by decide +kernel
theorem dX7_join_48 : decode cX7_join 48 = .ok (.iaload, 1) := by decide +kernel
theorem dX7_join_49 : decode cX7_join 49 = .ok (.istore 4, 2) := by decide +kernel
theorem dX7_join_51 : decode cX7_join 51 = .ok (.aload_n 0, 1) := by decide +kernel
theorem dX7_join_52 : decode cX7_join 52 = .ok (.getfield 19, 3) := by decide +kernel
theorem dX7_join_55 : decode cX7_join 55 = .ok (.bipush 8, 2) := by decide +kernel
theorem dX7_join_57 : decode cX7_join 57 = .ok (.iload_n 1, 1) := by decide +kernel
theorem dX7_join_58 : decode cX7_join 58 = .ok (.imul, 1) := by decide +kernel
theorem dX7_join_59 : decode cX7_join 59 = .ok (.iload_n 2, 1) := by decide +kernel
theorem dX7_join_60 : decode cX7_join 60 = .ok (.iadd, 1) := by decide +kernel
theorem dX7_join_61 : decode cX7_join 61 = .ok (.iload_n 3, 1) := by decide +kernel
theorem dX7_join_62 : decode cX7_join 62 = .ok (.iastore, 1) := by decide +kernel
theorem dX7_join_63 : decode cX7_join 63 = .ok (.iload 4, 2) := by decide +kernel
theorem dX7_join_65 : decode cX7_join 65 = .ok (.ireturn, 1) := by decide +kernel
set_option maxRecDepth 20000 in
theorem ggX7_kind_X7_isPart : GoodIn wsX7_kind wsX7_isPart := goodIn_r _ [6, 7, 8, 9, 5, 10, 11, 12, 13, 14, 15, 16, 17, 18, 19, 20, 21, 22, 23, 24, 25, 26, 27] (by decide +kernel) (by decide +kernel)
set_option maxRecDepth 20000 in
theorem gX7_kind_X7_isPart : GoodIn wsX7_kind (wsV RX7 71 RX7 yX7_isPart wsX7_isPart) := goodIn_app (goodIn_of _ (by decide +kernel)) ggX7_kind_X7_isPart
theorem dX7_kind_0 : decode cX7_kind 0 = .ok (.aload_n 0, 1) := by decide +kernel
theorem dX7_kind_1 : decode cX7_kind 1 = .ok (.iload_n 1, 1) := by decide +kernel
theorem dX7_kind_2 : decode cX7_kind 2 = .ok (.invokevirtual 71, 3) := by decide +kernel
theorem dX7_kind_5 : decode cX7_kind 5 = .ok (.ifCond .eq 25, 3) := by decide +kernel
theorem dX7_kind_8 : decode cX7_kind 8 = .ok (.aload_n 0, 1) := by decide +kernel
theorem dX7_kind_9 : decode cX7_kind 9 = .ok (.iload_n 2, 1) := by decide +kernel
theorem dX7_kind_10 : decode cX7_kind 10 = .ok (.invokevirtual 71, 3) := by decide +kernel
theorem dX7_kind_13 : decode cX7_kind 13 = .ok (.ifCond .eq 17, 3) := by decide +kernel
theorem dX7_kind_16 : decode cX7_kind 16 = .ok (.aload_n 0, 1) := by decide +kernel
theorem dX7_kind_17 : decode cX7_kind 17 = .ok (.getfield 19, 3) := by decide +kernel
theorem dX7_kind_20 : decode cX7_kind 20 = .ok (.bipush 8, 2) := by decide +kernel
theorem dX7_kind_22 : decode cX7_kind 22 = .ok (.iload_n 1, 1) := by decide +kernel
theorem dX7_kind_23 : decode cX7_kind 23 = .ok (.imul, 1) := by decide +kernel
theorem dX7_kind_24 : decode cX7_kind 24 = .ok (.iload_n 2, 1) := by decide +kernel
theorem dX7_kind_25 : decode cX7_kind 25 = .ok (.iadd, 1) := by decide +kernel
theorem dX7_kind_26 : decode cX7_kind 26 = .ok (.iaload, 1) := by decide +kernel
theorem dX7_kind_27 : decode cX7_kind 27 = .ok (.goto 6, 3) := by decide +kernel
theorem dX7_kind_30 : decode cX7_kind 30 = .ok (.sipush (-1001), 3) := by decide +kernel
theorem dX7_kind_33 : decode cX7_kind 33 = .ok (.ireturn, 1) := by decide +kernel
theorem dX7_ownReach_0 : decode cX7_ownReach 0 = .ok (.aload_n 0, 1) := by decide +kernel
theorem dX7_ownReach_1 : decode cX7_ownReach 1 = .ok (.getfield 13, 3) := by decide +kernel
theorem dX7_ownReach_4 : decode cX7_ownReach 4 = .ok (.bipush 12, 2) := by decide +kernel
theorem dX7_ownReach_6 : decode cX7_ownReach 6 = .ok (.aload_n 0, 1) := by decide +kernel
theorem dX7_ownReach_7 : decode cX7_ownReach 7 = .ok (.getfield 16, 3) := by decide +kernel
theorem dX7_ownReach_10 : decode cX7_ownReach 10 = .ok (.iload_n 1, 1) := by decide +kernel
theorem dX7_ownReach_11 : decode cX7_ownReach 11 = .ok (.iaload, 1) := by decide +kernel
theorem dX7_ownReach_12 : decode cX7_ownReach 12 = .ok (.imul, 1) := by decide +kernel
theorem dX7_ownReach_13 : decode cX7_ownReach 13 = .ok (.iload_n 2, 1) := by decide +kernel
theorem dX7_ownReach_14 : decode cX7_ownReach 14 = .ok (.iadd, 1) := by decide +kernel
theorem dX7_ownReach_15 : decode cX7_ownReach 15 = .ok (.iaload, 1) := by decide +kernel
theorem dX7_ownReach_16 : decode cX7_ownReach 16 = .ok (.ireturn, 1) := by decide +kernel
set_option maxRecDepth 20000 in
theorem ggX7_withReach_X7_has : GoodIn wsX7_withReach wsX7_has := goodIn_r _ [5] (by decide +kernel) (by decide +kernel)
set_option maxRecDepth 20000 in
theorem gX7_withReach_X7_has : GoodIn wsX7_withReach (va_wsS RX7 68 yX7_has wsX7_has) := goodIn_app (goodIn_of _ (by decide +kernel)) ggX7_withReach_X7_has
set_option maxRecDepth 20000 in
theorem ggX7_withReach_X7_ownReach : GoodIn wsX7_withReach wsX7_ownReach := goodIn_r _ [9, 10, 11, 12, 13, 14, 15, 16, 17, 18, 19, 20, 21, 22, 23, 24, 25] (by decide +kernel) (by decide +kernel)
set_option maxRecDepth 20000 in
theorem gX7_withReach_X7_ownReach : GoodIn wsX7_withReach (wsV RX7 83 RX7 yX7_ownReach wsX7_ownReach) := goodIn_app (goodIn_of _ (by decide +kernel)) ggX7_withReach_X7_ownReach
theorem dX7_withReach_0 : decode cX7_withReach 0 = .ok (.iconst 0, 1) := by decide +kernel
theorem dX7_withReach_1 : decode cX7_withReach 1 = .ok (.istore 4, 2) := by decide +kernel
theorem dX7_withReach_3 : decode cX7_withReach 3 = .ok (.iconst 0, 1) := by decide +kernel
theorem dX7_withReach_4 : decode cX7_withReach 4 = .ok (.istore 5, 2) := by decide +kernel
theorem dX7_withReach_6 : decode cX7_withReach 6 = .ok (.iload 5, 2) := by decide +kernel
theorem dX7_withReach_8 : decode cX7_withReach 8 = .ok (.bipush 8, 2) := by decide +kernel
theorem dX7_withReach_10 : decode cX7_withReach 10 = .ok (.if_icmp .ge 42, 3) := by decide +kernel
theorem dX7_withReach_13 : decode cX7_withReach 13 = .ok (.iload 4, 2) := by decide +kernel
theorem dX7_withReach_15 : decode cX7_withReach 15 = .ok (.iload_n 1, 1) := by decide +kernel
theorem dX7_withReach_16 : decode cX7_withReach 16 = .ok (.iload 5, 2) := by decide +kernel
theorem dX7_withReach_18 : decode cX7_withReach 18 = .ok (.invokestatic 68, 3) := by decide +kernel
theorem dX7_withReach_21 : decode cX7_withReach 21 = .ok (.ifCond .eq 21, 3) := by decide +kernel
theorem dX7_withReach_24 : decode cX7_withReach 24 = .ok (.aload_n 0, 1) := by decide +kernel
theorem dX7_withReach_25 : decode cX7_withReach 25 = .ok (.iload 5, 2) := by decide +kernel
theorem dX7_withReach_27 : decode cX7_withReach 27 = .ok (.iload_n 2, 1) := by decide +kernel
theorem dX7_withReach_28 : decode cX7_withReach 28 = .ok (.invokevirtual 83, 3) := by decide +kernel
theorem dX7_withReach_31 : decode cX7_withReach 31 = .ok (.iload_n 3, 1) := by decide +kernel
theorem dX7_withReach_32 : decode cX7_withReach 32 = .ok (.if_icmp .ne 10, 3) := by decide +kernel
theorem dX7_withReach_35 : decode cX7_withReach 35 = .ok (.iconst 1, 1) := by decide +kernel
theorem dX7_withReach_36 : decode cX7_withReach 36 = .ok (.iload 5, 2) := by decide +kernel
theorem dX7_withReach_38 : decode cX7_withReach 38 = .ok (.ishl, 1) := by decide +kernel
theorem dX7_withReach_39 : decode cX7_withReach 39 = .ok (.goto 4, 3) := by decide +kernel
theorem dX7_withReach_42 : decode cX7_withReach 42 = .ok (.iconst 0, 1) := by decide +kernel
theorem dX7_withReach_43 : decode cX7_withReach 43 = .ok (.ior, 1) := by decide +kernel
theorem dX7_withReach_44 : decode cX7_withReach 44 = .ok (.istore 4, 2) := by decide +kernel
theorem dX7_withReach_46 : decode cX7_withReach 46 = .ok (.iinc 5 1, 3) := by decide +kernel
theorem dX7_withReach_49 : decode cX7_withReach 49 = .ok (.goto (-43), 3) := by decide +kernel
theorem dX7_withReach_52 : decode cX7_withReach 52 = .ok (.iconst 0, 1) := by decide +kernel
theorem dX7_withReach_53 : decode cX7_withReach 53 = .ok (.istore 5, 2) := by decide +kernel
theorem dX7_withReach_55 : decode cX7_withReach 55 = .ok (.iload 5, 2) := by decide +kernel
theorem dX7_withReach_57 : decode cX7_withReach 57 = .ok (.iload 4, 2) := by decide +kernel
theorem dX7_withReach_59 : decode cX7_withReach 59 = .ok (.if_icmp .eq 101, 3) := by decide +kernel
theorem dX7_withReach_62 : decode cX7_withReach 62 = .ok (.iload 4, 2) := by decide +kernel
theorem dX7_withReach_64 : decode cX7_withReach 64 = .ok (.istore 5, 2) := by decide +kernel
theorem dX7_withReach_66 : decode cX7_withReach 66 = .ok (.iconst 0, 1) := by decide +kernel
theorem dX7_withReach_67 : decode cX7_withReach 67 = .ok (.istore 6, 2) := by decide +kernel
theorem dX7_withReach_69 : decode cX7_withReach 69 = .ok (.iload 6, 2) := by decide +kernel
theorem dX7_withReach_71 : decode cX7_withReach 71 = .ok (.bipush 64, 2) := by decide +kernel
theorem dX7_withReach_73 : decode cX7_withReach 73 = .ok (.if_icmp .ge 84, 3) := by decide +kernel
theorem dX7_withReach_76 : decode cX7_withReach 76 = .ok (.iload_n 1, 1) := by decide +kernel
theorem dX7_withReach_77 : decode cX7_withReach 77 = .ok (.iload 6, 2) := by decide +kernel
theorem dX7_withReach_79 : decode cX7_withReach 79 = .ok (.bipush 8, 2) := by decide +kernel
theorem dX7_withReach_81 : decode cX7_withReach 81 = .ok (.idiv, 1) := by decide +kernel
theorem dX7_withReach_82 : decode cX7_withReach 82 = .ok (.invokestatic 68, 3) := by decide +kernel
theorem dX7_withReach_85 : decode cX7_withReach 85 = .ok (.ifCond .eq 42, 3) := by decide +kernel
theorem dX7_withReach_88 : decode cX7_withReach 88 = .ok (.iload 5, 2) := by decide +kernel
theorem dX7_withReach_90 : decode cX7_withReach 90 = .ok (.iload 6, 2) := by decide +kernel
theorem dX7_withReach_92 : decode cX7_withReach 92 = .ok (.bipush 8, 2) := by decide +kernel
theorem dX7_withReach_94 : decode cX7_withReach 94 = .ok (.irem, 1) := by decide +kernel
theorem dX7_withReach_95 : decode cX7_withReach 95 = .ok (.invokestatic 68, 3) := by decide +kernel
theorem dX7_withReach_98 : decode cX7_withReach 98 = .ok (.ifCond .eq 29, 3) := by decide +kernel
theorem dX7_withReach_101 : decode cX7_withReach 101 = .ok (.aload_n 0, 1) := by decide +kernel
theorem dX7_withReach_102 : decode cX7_withReach 102 = .ok (.getfield 19, 3) := by decide +kernel
theorem dX7_withReach_105 : decode cX7_withReach 105 = .ok (.iload 6, 2) := by decide +kernel
theorem dX7_withReach_107 : decode cX7_withReach 107 = .ok (.iaload, 1) := by decide +kernel
theorem dX7_withReach_108 : decode cX7_withReach 108 = .ok (.iconst (-1), 1) := by decide +kernel
theorem dX7_withReach_109 : decode cX7_withReach 109 = .ok (.if_icmp .eq 18, 3) := by decide +kernel
theorem dX7_withReach_112 : decode cX7_withReach 112 = .ok (.aload_n 0, 1) := by decide +kernel
theorem dX7_withReach_113 : decode cX7_withReach 113 = .ok (.getfield 19, 3) := by decide +kernel
theorem dX7_withReach_116 : decode cX7_withReach 116 = .ok (.iload 6, 2) := by decide +kernel
theorem dX7_withReach_118 : decode cX7_withReach 118 = .ok (.iaload, 1) := by decide +kernel
theorem dX7_withReach_119 : decode cX7_withReach 119 = .ok (.iload_n 3, 1) := by decide +kernel
theorem dX7_withReach_120 : decode cX7_withReach 120 = .ok (.if_icmp .ge 7, 3) := by decide +kernel
theorem dX7_withReach_123 : decode cX7_withReach 123 = .ok (.iconst 1, 1) := by decide +kernel
theorem dX7_withReach_124 : decode cX7_withReach 124 = .ok (.goto 4, 3) := by decide +kernel
theorem dX7_withReach_127 : decode cX7_withReach 127 = .ok (.iconst 0, 1) := by decide +kernel
theorem dX7_withReach_128 : decode cX7_withReach 128 = .ok (.istore 7, 2) := by decide +kernel
theorem dX7_withReach_130 : decode cX7_withReach 130 = .ok (.iload 4, 2) := by decide +kernel
theorem dX7_withReach_132 : decode cX7_withReach 132 = .ok (.iload 7, 2) := by decide +kernel
theorem dX7_withReach_134 : decode cX7_withReach 134 = .ok (.ifCond .eq 13, 3) := by decide +kernel
theorem dX7_withReach_137 : decode cX7_withReach 137 = .ok (.iconst 1, 1) := by decide +kernel
theorem dX7_withReach_138 : decode cX7_withReach 138 = .ok (.iload 6, 2) := by decide +kernel
theorem dX7_withReach_140 : decode cX7_withReach 140 = .ok (.bipush 8, 2) := by decide +kernel
theorem dX7_withReach_142 : decode cX7_withReach 142 = .ok (.idiv, 1) := by decide +kernel
theorem dX7_withReach_143 : decode cX7_withReach 143 = .ok (.ishl, 1) := by decide +kernel
theorem dX7_withReach_144 : decode cX7_withReach 144 = .ok (.goto 4, 3) := by decide +kernel
theorem dX7_withReach_147 : decode cX7_withReach 147 = .ok (.iconst 0, 1) := by decide +kernel
theorem dX7_withReach_148 : decode cX7_withReach 148 = .ok (.ior, 1) := by decide +kernel
theorem dX7_withReach_149 : decode cX7_withReach 149 = .ok (.istore 4, 2) := by decide +kernel
theorem dX7_withReach_151 : decode cX7_withReach 151 = .ok (.iinc 6 1, 3) := by decide +kernel
theorem dX7_withReach_154 : decode cX7_withReach 154 = .ok (.goto (-85), 3) := by decide +kernel
theorem dX7_withReach_157 : decode cX7_withReach 157 = .ok (.goto (-102), 3) := by decide +kernel
theorem dX7_withReach_160 : decode cX7_withReach 160 = .ok (.iload 4, 2) := by decide +kernel
theorem dX7_withReach_162 : decode cX7_withReach 162 = .ok (.ireturn, 1) := by decide +kernel
set_option maxRecDepth 20000 in
theorem ggX7_heldNow_X7_withReach : GoodIn wsX7_heldNow wsX7_withReach := goodIn_r _ [6, 7, 8, 9, 5, 10, 11, 12, 13, 14, 15, 16, 17, 18, 19, 20, 21, 22, 23, 24, 25, 26, 27, 28, 29, 30] (by decide +kernel) (by decide +kernel)
set_option maxRecDepth 20000 in
theorem gX7_heldNow_X7_withReach : GoodIn wsX7_heldNow (wsV RX7 87 RX7 yX7_withReach wsX7_withReach) := goodIn_app (goodIn_of _ (by decide +kernel)) ggX7_heldNow_X7_withReach
set_option maxRecDepth 20000 in
theorem ggX7_heldNow_X7_has : GoodIn wsX7_heldNow wsX7_has := goodIn_r _ [10] (by decide +kernel) (by decide +kernel)
set_option maxRecDepth 20000 in
theorem gX7_heldNow_X7_has : GoodIn wsX7_heldNow (va_wsS RX7 68 yX7_has wsX7_has) := goodIn_app (goodIn_of _ (by decide +kernel)) ggX7_heldNow_X7_has
theorem dX7_heldNow_0 : decode cX7_heldNow 0 = .ok (.iconst 3, 1) := by decide +kernel
theorem dX7_heldNow_1 : decode cX7_heldNow 1 = .ok (.istore_n 3, 1) := by decide +kernel
theorem dX7_heldNow_2 : decode cX7_heldNow 2 = .ok (.iload_n 3, 1) := by decide +kernel
theorem dX7_heldNow_3 : decode cX7_heldNow 3 = .ok (.ifCond .le 26, 3) := by decide +kernel
theorem dX7_heldNow_6 : decode cX7_heldNow 6 = .ok (.aload_n 0, 1) := by decide +kernel
theorem dX7_heldNow_7 : decode cX7_heldNow 7 = .ok (.aload_n 0, 1) := by decide +kernel
theorem dX7_heldNow_8 : decode cX7_heldNow 8 = .ok (.getfield 65, 3) := by decide +kernel
theorem dX7_heldNow_11 : decode cX7_heldNow 11 = .ok (.iload_n 2, 1) := by decide +kernel
theorem dX7_heldNow_12 : decode cX7_heldNow 12 = .ok (.iload_n 3, 1) := by decide +kernel
theorem dX7_heldNow_13 : decode cX7_heldNow 13 = .ok (.invokevirtual 87, 3) := by decide +kernel
theorem dX7_heldNow_16 : decode cX7_heldNow 16 = .ok (.iload_n 1, 1) := by decide +kernel
theorem dX7_heldNow_17 : decode cX7_heldNow 17 = .ok (.invokestatic 68, 3) := by decide +kernel
theorem dX7_heldNow_20 : decode cX7_heldNow 20 = .ok (.ifCond .ne 9, 3) := by decide +kernel
theorem dX7_heldNow_23 : decode cX7_heldNow 23 = .ok (.iinc 3 (-1), 3) := by decide +kernel
theorem dX7_heldNow_26 : decode cX7_heldNow 26 = .ok (.goto (-24), 3) := by decide +kernel
theorem dX7_heldNow_29 : decode cX7_heldNow 29 = .ok (.iload_n 3, 1) := by decide +kernel
theorem dX7_heldNow_30 : decode cX7_heldNow 30 = .ok (.ireturn, 1) := by decide +kernel
set_option maxRecDepth 20000 in
theorem ggX7_heldBy_X7_withReach : GoodIn wsX7_heldBy wsX7_withReach := goodIn_r _ [5, 6, 7, 8, 4, 9, 10, 11, 12, 13, 14, 15, 16, 17, 18, 19, 20, 21, 22, 23, 24, 25, 26, 27, 28, 29] (by decide +kernel) (by decide +kernel)
set_option maxRecDepth 20000 in
theorem gX7_heldBy_X7_withReach : GoodIn wsX7_heldBy (wsV RX7 87 RX7 yX7_withReach wsX7_withReach) := goodIn_app (goodIn_of _ (by decide +kernel)) ggX7_heldBy_X7_withReach
theorem dX7_heldBy_0 : decode cX7_heldBy 0 = .ok (.aload_n 0, 1) := by decide +kernel
theorem dX7_heldBy_1 : decode cX7_heldBy 1 = .ok (.iload_n 1, 1) := by decide +kernel
theorem dX7_heldBy_2 : decode cX7_heldBy 2 = .ok (.iload_n 2, 1) := by decide +kernel
theorem dX7_heldBy_3 : decode cX7_heldBy 3 = .ok (.iconst 1, 1) := by decide +kernel
theorem dX7_heldBy_4 : decode cX7_heldBy 4 = .ok (.invokevirtual 87, 3) := by decide +kernel
theorem dX7_heldBy_7 : decode cX7_heldBy 7 = .ok (.aload_n 0, 1) := by decide +kernel
theorem dX7_heldBy_8 : decode cX7_heldBy 8 = .ok (.iload_n 1, 1) := by decide +kernel
theorem dX7_heldBy_9 : decode cX7_heldBy 9 = .ok (.iload_n 2, 1) := by decide +kernel
theorem dX7_heldBy_10 : decode cX7_heldBy 10 = .ok (.iconst 2, 1) := by decide +kernel
theorem dX7_heldBy_11 : decode cX7_heldBy 11 = .ok (.invokevirtual 87, 3) := by decide +kernel
theorem dX7_heldBy_14 : decode cX7_heldBy 14 = .ok (.ior, 1) := by decide +kernel
theorem dX7_heldBy_15 : decode cX7_heldBy 15 = .ok (.aload_n 0, 1) := by decide +kernel
theorem dX7_heldBy_16 : decode cX7_heldBy 16 = .ok (.iload_n 1, 1) := by decide +kernel
theorem dX7_heldBy_17 : decode cX7_heldBy 17 = .ok (.iload_n 2, 1) := by decide +kernel
theorem dX7_heldBy_18 : decode cX7_heldBy 18 = .ok (.iconst 3, 1) := by decide +kernel
theorem dX7_heldBy_19 : decode cX7_heldBy 19 = .ok (.invokevirtual 87, 3) := by decide +kernel
theorem dX7_heldBy_22 : decode cX7_heldBy 22 = .ok (.ior, 1) := by decide +kernel
theorem dX7_heldBy_23 : decode cX7_heldBy 23 = .ok (.ireturn, 1) := by decide +kernel
set_option maxRecDepth 20000 in
theorem ggX7_clashing_X7_heldBy : GoodIn wsX7_clashing wsX7_heldBy := goodIn_r _ [5, 6, 7, 8, 4, 9, 10, 11, 12, 13, 14, 15, 16, 17, 18, 19, 20, 21, 22, 23, 24, 25, 26, 27, 28, 29, 30, 31, 32, 33] (by decide +kernel) (by decide +kernel)
set_option maxRecDepth 20000 in
theorem gX7_clashing_X7_heldBy : GoodIn wsX7_clashing (wsV RX7 91 RX7 yX7_heldBy wsX7_heldBy) := goodIn_app (goodIn_of _ (by decide +kernel)) ggX7_clashing_X7_heldBy
theorem dX7_clashing_0 : decode cX7_clashing 0 = .ok (.aload_n 0, 1) := by decide +kernel
theorem dX7_clashing_1 : decode cX7_clashing 1 = .ok (.iload_n 1, 1) := by decide +kernel
theorem dX7_clashing_2 : decode cX7_clashing 2 = .ok (.iload_n 2, 1) := by decide +kernel
theorem dX7_clashing_3 : decode cX7_clashing 3 = .ok (.invokevirtual 91, 3) := by decide +kernel
theorem dX7_clashing_6 : decode cX7_clashing 6 = .ok (.aload_n 0, 1) := by decide +kernel
theorem dX7_clashing_7 : decode cX7_clashing 7 = .ok (.iload_n 1, 1) := by decide +kernel
theorem dX7_clashing_8 : decode cX7_clashing 8 = .ok (.iload_n 2, 1) := by decide +kernel
theorem dX7_clashing_9 : decode cX7_clashing 9 = .ok (.bipush 6, 2) := by decide +kernel
theorem dX7_clashing_11 : decode cX7_clashing 11 = .ok (.iadd, 1) := by decide +kernel
theorem dX7_clashing_12 : decode cX7_clashing 12 = .ok (.invokevirtual 91, 3) := by decide +kernel
theorem dX7_clashing_15 : decode cX7_clashing 15 = .ok (.iand, 1) := by decide +kernel
theorem dX7_clashing_16 : decode cX7_clashing 16 = .ok (.ireturn, 1) := by decide +kernel
set_option maxRecDepth 20000 in
theorem ggX7_held_X7_isPart : GoodIn wsX7_held wsX7_isPart := goodIn_r _ [5, 6, 7, 8, 4, 9, 10, 11, 12, 28, 29, 30, 31, 32, 33, 34, 35, 36, 37, 38, 39, 40, 41] (by decide +kernel) (by decide +kernel)
set_option maxRecDepth 20000 in
theorem gX7_held_X7_isPart : GoodIn wsX7_held (wsV RX7 71 RX7 yX7_isPart wsX7_isPart) := goodIn_app (goodIn_of _ (by decide +kernel)) ggX7_held_X7_isPart
set_option maxRecDepth 20000 in
theorem ggX7_held_X7_within : GoodIn wsX7_held wsX7_within := goodIn_r _ [9] (by decide +kernel) (by decide +kernel)
set_option maxRecDepth 20000 in
theorem gX7_held_X7_within : GoodIn wsX7_held (va_wsS RX7 31 yX7_within wsX7_within) := goodIn_app (goodIn_of _ (by decide +kernel)) ggX7_held_X7_within
set_option maxRecDepth 20000 in
theorem ggX7_held_X7_heldNow : GoodIn wsX7_held wsX7_heldNow := goodIn_r _ [16, 6, 17, 18, 19, 4, 20, 21, 10, 11, 12, 22, 23, 24, 25, 26, 27, 28, 29, 30, 31, 32, 33, 34, 35, 36, 37, 38, 39, 40, 41] (by decide +kernel) (by decide +kernel)
set_option maxRecDepth 20000 in
theorem gX7_held_X7_heldNow : GoodIn wsX7_held (wsV RX7 94 RX7 yX7_heldNow wsX7_heldNow) := goodIn_app (goodIn_of _ (by decide +kernel)) ggX7_held_X7_heldNow
theorem dX7_held_0 : decode cX7_held 0 = .ok (.aload_n 0, 1) := by decide +kernel
theorem dX7_held_1 : decode cX7_held 1 = .ok (.iload_n 1, 1) := by decide +kernel
theorem dX7_held_2 : decode cX7_held 2 = .ok (.invokevirtual 71, 3) := by decide +kernel
theorem dX7_held_5 : decode cX7_held 5 = .ok (.ifCond .ne 7, 3) := by decide +kernel
theorem dX7_held_8 : decode cX7_held 8 = .ok (.sipush (-1001), 3) := by decide +kernel
theorem dX7_held_11 : decode cX7_held 11 = .ok (.ireturn, 1) := by decide +kernel
theorem dX7_held_12 : decode cX7_held 12 = .ok (.iload_n 2, 1) := by decide +kernel
theorem dX7_held_13 : decode cX7_held 13 = .ok (.iconst 0, 1) := by decide +kernel
theorem dX7_held_14 : decode cX7_held 14 = .ok (.bipush 11, 2) := by decide +kernel
theorem dX7_held_16 : decode cX7_held 16 = .ok (.invokestatic 31, 3) := by decide +kernel
theorem dX7_held_19 : decode cX7_held 19 = .ok (.ifCond .eq 12, 3) := by decide +kernel
theorem dX7_held_22 : decode cX7_held 22 = .ok (.aload_n 0, 1) := by decide +kernel
theorem dX7_held_23 : decode cX7_held 23 = .ok (.iload_n 1, 1) := by decide +kernel
theorem dX7_held_24 : decode cX7_held 24 = .ok (.iload_n 2, 1) := by decide +kernel
theorem dX7_held_25 : decode cX7_held 25 = .ok (.invokevirtual 94, 3) := by decide +kernel
theorem dX7_held_28 : decode cX7_held 28 = .ok (.goto 6, 3) := by decide +kernel
theorem dX7_held_31 : decode cX7_held 31 = .ok (.sipush (-1002), 3) := by decide +kernel
theorem dX7_held_34 : decode cX7_held 34 = .ok (.ireturn, 1) := by decide +kernel
set_option maxRecDepth 20000 in
theorem ggX7_layFar_X7_has : GoodIn wsX7_layFar wsX7_has := goodIn_r _ [6] (by decide +kernel) (by decide +kernel)
set_option maxRecDepth 20000 in
theorem gX7_layFar_X7_has : GoodIn wsX7_layFar (va_wsS RX7 68 yX7_has wsX7_has) := goodIn_app (goodIn_of _ (by decide +kernel)) ggX7_layFar_X7_has
set_option maxRecDepth 20000 in
theorem ggX7_layFar_X7_ownReach : GoodIn wsX7_layFar wsX7_ownReach := goodIn_r _ [10, 11, 12, 18, 19, 20, 21, 22, 23, 24, 25, 26, 27, 28, 29, 30, 31] (by decide +kernel) (by decide +kernel)
set_option maxRecDepth 20000 in
theorem gX7_layFar_X7_ownReach : GoodIn wsX7_layFar (wsV RX7 83 RX7 yX7_ownReach wsX7_ownReach) := goodIn_app (goodIn_of _ (by decide +kernel)) ggX7_layFar_X7_ownReach
set_option maxRecDepth 20000 in
theorem ggX7_layFar_X7_isLet : GoodIn wsX7_layFar wsX7_isLet := goodIn_r _ [16, 17, 2, 3, 4, 5, 6, 18, 19, 20, 21, 22, 23, 24, 25, 26, 27, 28, 29, 30, 31] (by decide +kernel) (by decide +kernel)
set_option maxRecDepth 20000 in
theorem gX7_layFar_X7_isLet : GoodIn wsX7_layFar (wsV RX7 97 RX7 yX7_isLet wsX7_isLet) := goodIn_app (goodIn_of _ (by decide +kernel)) ggX7_layFar_X7_isLet
theorem dX7_layFar_0 : decode cX7_layFar 0 = .ok (.iconst 0, 1) := by decide +kernel
theorem dX7_layFar_1 : decode cX7_layFar 1 = .ok (.istore_n 3, 1) := by decide +kernel
theorem dX7_layFar_2 : decode cX7_layFar 2 = .ok (.iload_n 3, 1) := by decide +kernel
theorem dX7_layFar_3 : decode cX7_layFar 3 = .ok (.bipush 8, 2) := by decide +kernel
theorem dX7_layFar_5 : decode cX7_layFar 5 = .ok (.if_icmp .ge 42, 3) := by decide +kernel
theorem dX7_layFar_8 : decode cX7_layFar 8 = .ok (.aload_n 0, 1) := by decide +kernel
theorem dX7_layFar_9 : decode cX7_layFar 9 = .ok (.getfield 25, 3) := by decide +kernel
theorem dX7_layFar_12 : decode cX7_layFar 12 = .ok (.iload_n 3, 1) := by decide +kernel
theorem dX7_layFar_13 : decode cX7_layFar 13 = .ok (.aload_n 0, 1) := by decide +kernel
theorem dX7_layFar_14 : decode cX7_layFar 14 = .ok (.getfield 65, 3) := by decide +kernel
theorem dX7_layFar_17 : decode cX7_layFar 17 = .ok (.iload_n 3, 1) := by decide +kernel
theorem dX7_layFar_18 : decode cX7_layFar 18 = .ok (.invokestatic 68, 3) := by decide +kernel
theorem dX7_layFar_21 : decode cX7_layFar 21 = .ok (.ifCond .eq 17, 3) := by decide +kernel
theorem dX7_layFar_24 : decode cX7_layFar 24 = .ok (.aload_n 0, 1) := by decide +kernel
theorem dX7_layFar_25 : decode cX7_layFar 25 = .ok (.iload_n 3, 1) := by decide +kernel
theorem dX7_layFar_26 : decode cX7_layFar 26 = .ok (.iload_n 1, 1) := by decide +kernel
theorem dX7_layFar_27 : decode cX7_layFar 27 = .ok (.invokevirtual 83, 3) := by decide +kernel
theorem dX7_layFar_30 : decode cX7_layFar 30 = .ok (.iload_n 2, 1) := by decide +kernel
theorem dX7_layFar_31 : decode cX7_layFar 31 = .ok (.if_icmp .ne 7, 3) := by decide +kernel
theorem dX7_layFar_34 : decode cX7_layFar 34 = .ok (.iconst 0, 1) := by decide +kernel
theorem dX7_layFar_35 : decode cX7_layFar 35 = .ok (.goto 5, 3) := by decide +kernel
theorem dX7_layFar_38 : decode cX7_layFar 38 = .ok (.bipush 8, 2) := by decide +kernel
theorem dX7_layFar_40 : decode cX7_layFar 40 = .ok (.iastore, 1) := by decide +kernel
theorem dX7_layFar_41 : decode cX7_layFar 41 = .ok (.iinc 3 1, 3) := by decide +kernel
theorem dX7_layFar_44 : decode cX7_layFar 44 = .ok (.goto (-42), 3) := by decide +kernel
theorem dX7_layFar_47 : decode cX7_layFar 47 = .ok (.iconst 0, 1) := by decide +kernel
theorem dX7_layFar_48 : decode cX7_layFar 48 = .ok (.istore_n 3, 1) := by decide +kernel
theorem dX7_layFar_49 : decode cX7_layFar 49 = .ok (.iload_n 3, 1) := by decide +kernel
theorem dX7_layFar_50 : decode cX7_layFar 50 = .ok (.bipush 8, 2) := by decide +kernel
theorem dX7_layFar_52 : decode cX7_layFar 52 = .ok (.if_icmp .ge 90, 3) := by decide +kernel
theorem dX7_layFar_55 : decode cX7_layFar 55 = .ok (.iconst 0, 1) := by decide +kernel
theorem dX7_layFar_56 : decode cX7_layFar 56 = .ok (.istore 4, 2) := by decide +kernel
theorem dX7_layFar_58 : decode cX7_layFar 58 = .ok (.iload 4, 2) := by decide +kernel
theorem dX7_layFar_60 : decode cX7_layFar 60 = .ok (.bipush 64, 2) := by decide +kernel
theorem dX7_layFar_62 : decode cX7_layFar 62 = .ok (.if_icmp .ge 74, 3) := by decide +kernel
theorem dX7_layFar_65 : decode cX7_layFar 65 = .ok (.aload_n 0, 1) := by decide +kernel
theorem dX7_layFar_66 : decode cX7_layFar 66 = .ok (.iload 4, 2) := by decide +kernel
theorem dX7_layFar_68 : decode cX7_layFar 68 = .ok (.bipush 8, 2) := by decide +kernel
theorem dX7_layFar_70 : decode cX7_layFar 70 = .ok (.idiv, 1) := by decide +kernel
theorem dX7_layFar_71 : decode cX7_layFar 71 = .ok (.iload 4, 2) := by decide +kernel
theorem dX7_layFar_73 : decode cX7_layFar 73 = .ok (.bipush 8, 2) := by decide +kernel
theorem dX7_layFar_75 : decode cX7_layFar 75 = .ok (.irem, 1) := by decide +kernel
theorem dX7_layFar_76 : decode cX7_layFar 76 = .ok (.iload_n 2, 1) := by decide +kernel
theorem dX7_layFar_77 : decode cX7_layFar 77 = .ok (.invokevirtual 97, 3) := by decide +kernel
theorem dX7_layFar_80 : decode cX7_layFar 80 = .ok (.ifCond .eq 50, 3) := by decide +kernel
theorem dX7_layFar_83 : decode cX7_layFar 83 = .ok (.aload_n 0, 1) := by decide +kernel
theorem dX7_layFar_84 : decode cX7_layFar 84 = .ok (.getfield 25, 3) := by decide +kernel
theorem dX7_layFar_87 : decode cX7_layFar 87 = .ok (.iload 4, 2) := by decide +kernel
theorem dX7_layFar_89 : decode cX7_layFar 89 = .ok (.bipush 8, 2) := by decide +kernel
theorem dX7_layFar_91 : decode cX7_layFar 91 = .ok (.irem, 1) := by decide +kernel
theorem dX7_layFar_92 : decode cX7_layFar 92 = .ok (.iaload, 1) := by decide +kernel
theorem dX7_layFar_93 : decode cX7_layFar 93 = .ok (.iconst 1, 1) := by decide +kernel
theorem dX7_layFar_94 : decode cX7_layFar 94 = .ok (.iadd, 1) := by decide +kernel
theorem dX7_layFar_95 : decode cX7_layFar 95 = .ok (.aload_n 0, 1) := by decide +kernel
theorem dX7_layFar_96 : decode cX7_layFar 96 = .ok (.getfield 25, 3) := by decide +kernel
theorem dX7_layFar_99 : decode cX7_layFar 99 = .ok (.iload 4, 2) := by decide +kernel
theorem dX7_layFar_101 : decode cX7_layFar 101 = .ok (.bipush 8, 2) := by decide +kernel
theorem dX7_layFar_103 : decode cX7_layFar 103 = .ok (.idiv, 1) := by decide +kernel
theorem dX7_layFar_104 : decode cX7_layFar 104 = .ok (.iaload, 1) := by decide +kernel
theorem dX7_layFar_105 : decode cX7_layFar 105 = .ok (.if_icmp .ge 25, 3) := by decide +kernel
theorem dX7_layFar_108 : decode cX7_layFar 108 = .ok (.aload_n 0, 1) := by decide +kernel
theorem dX7_layFar_109 : decode cX7_layFar 109 = .ok (.getfield 25, 3) := by decide +kernel
theorem dX7_layFar_112 : decode cX7_layFar 112 = .ok (.iload 4, 2) := by decide +kernel
theorem dX7_layFar_114 : decode cX7_layFar 114 = .ok (.bipush 8, 2) := by decide +kernel
theorem dX7_layFar_116 : decode cX7_layFar 116 = .ok (.idiv, 1) := by decide +kernel
theorem dX7_layFar_117 : decode cX7_layFar 117 = .ok (.aload_n 0, 1) := by decide +kernel
theorem dX7_layFar_118 : decode cX7_layFar 118 = .ok (.getfield 25, 3) := by decide +kernel
theorem dX7_layFar_121 : decode cX7_layFar 121 = .ok (.iload 4, 2) := by decide +kernel
theorem dX7_layFar_123 : decode cX7_layFar 123 = .ok (.bipush 8, 2) := by decide +kernel
theorem dX7_layFar_125 : decode cX7_layFar 125 = .ok (.irem, 1) := by decide +kernel
theorem dX7_layFar_126 : decode cX7_layFar 126 = .ok (.iaload, 1) := by decide +kernel
theorem dX7_layFar_127 : decode cX7_layFar 127 = .ok (.iconst 1, 1) := by decide +kernel
theorem dX7_layFar_128 : decode cX7_layFar 128 = .ok (.iadd, 1) := by decide +kernel
theorem dX7_layFar_129 : decode cX7_layFar 129 = .ok (.iastore, 1) := by decide +kernel
theorem dX7_layFar_130 : decode cX7_layFar 130 = .ok (.iinc 4 1, 3) := by decide +kernel
theorem dX7_layFar_133 : decode cX7_layFar 133 = .ok (.goto (-75), 3) := by decide +kernel
theorem dX7_layFar_136 : decode cX7_layFar 136 = .ok (.iinc 3 1, 3) := by decide +kernel
theorem dX7_layFar_139 : decode cX7_layFar 139 = .ok (.goto (-90), 3) := by decide +kernel
theorem dX7_layFar_142 : decode cX7_layFar 142 = .ok (.return_, 1) := by decide +kernel
set_option maxRecDepth 20000 in
theorem ggX7_isLet_X7_has : GoodIn wsX7_isLet wsX7_has := goodIn_r _ [6] (by decide +kernel) (by decide +kernel)
set_option maxRecDepth 20000 in
theorem gX7_isLet_X7_has : GoodIn wsX7_isLet (va_wsS RX7 68 yX7_has wsX7_has) := goodIn_app (goodIn_of _ (by decide +kernel)) ggX7_isLet_X7_has
theorem dX7_isLet_0 : decode cX7_isLet 0 = .ok (.aload_n 0, 1) := by decide +kernel
theorem dX7_isLet_1 : decode cX7_isLet 1 = .ok (.getfield 19, 3) := by decide +kernel
theorem dX7_isLet_4 : decode cX7_isLet 4 = .ok (.bipush 8, 2) := by decide +kernel
theorem dX7_isLet_6 : decode cX7_isLet 6 = .ok (.iload_n 1, 1) := by decide +kernel
theorem dX7_isLet_7 : decode cX7_isLet 7 = .ok (.imul, 1) := by decide +kernel
theorem dX7_isLet_8 : decode cX7_isLet 8 = .ok (.iload_n 2, 1) := by decide +kernel
theorem dX7_isLet_9 : decode cX7_isLet 9 = .ok (.iadd, 1) := by decide +kernel
theorem dX7_isLet_10 : decode cX7_isLet 10 = .ok (.iaload, 1) := by decide +kernel
theorem dX7_isLet_11 : decode cX7_isLet 11 = .ok (.istore 4, 2) := by decide +kernel
theorem dX7_isLet_13 : decode cX7_isLet 13 = .ok (.aload_n 0, 1) := by decide +kernel
theorem dX7_isLet_14 : decode cX7_isLet 14 = .ok (.getfield 65, 3) := by decide +kernel
theorem dX7_isLet_17 : decode cX7_isLet 17 = .ok (.iload_n 1, 1) := by decide +kernel
theorem dX7_isLet_18 : decode cX7_isLet 18 = .ok (.invokestatic 68, 3) := by decide +kernel
theorem dX7_isLet_21 : decode cX7_isLet 21 = .ok (.ifCond .eq 30, 3) := by decide +kernel
theorem dX7_isLet_24 : decode cX7_isLet 24 = .ok (.aload_n 0, 1) := by decide +kernel
theorem dX7_isLet_25 : decode cX7_isLet 25 = .ok (.getfield 65, 3) := by decide +kernel
theorem dX7_isLet_28 : decode cX7_isLet 28 = .ok (.iload_n 2, 1) := by decide +kernel
theorem dX7_isLet_29 : decode cX7_isLet 29 = .ok (.invokestatic 68, 3) := by decide +kernel
theorem dX7_isLet_32 : decode cX7_isLet 32 = .ok (.ifCond .eq 19, 3) := by decide +kernel
theorem dX7_isLet_35 : decode cX7_isLet 35 = .ok (.iload 4, 2) := by decide +kernel
theorem dX7_isLet_37 : decode cX7_isLet 37 = .ok (.iconst (-1), 1) := by decide +kernel
theorem dX7_isLet_38 : decode cX7_isLet 38 = .ok (.if_icmp .eq 13, 3) := by decide +kernel
theorem dX7_isLet_41 : decode cX7_isLet 41 = .ok (.iload 4, 2) := by decide +kernel
theorem dX7_isLet_43 : decode cX7_isLet 43 = .ok (.iload_n 3, 1) := by decide +kernel
theorem dX7_isLet_44 : decode cX7_isLet 44 = .ok (.if_icmp .ge 7, 3) := by decide +kernel
theorem dX7_isLet_47 : decode cX7_isLet 47 = .ok (.iconst 1, 1) := by decide +kernel
theorem dX7_isLet_48 : decode cX7_isLet 48 = .ok (.goto 4, 3) := by decide +kernel
theorem dX7_isLet_51 : decode cX7_isLet 51 = .ok (.iconst 0, 1) := by decide +kernel
theorem dX7_isLet_52 : decode cX7_isLet 52 = .ok (.ireturn, 1) := by decide +kernel
set_option maxRecDepth 20000 in
theorem ggX7_layWay_X7_heldNow : GoodIn wsX7_layWay wsX7_heldNow := goodIn_r _ [8, 9, 10, 11, 12, 7, 13, 14, 15, 16, 17, 18, 19, 20, 21, 22, 23, 32, 33, 34, 35, 36, 37, 38, 39, 40, 41, 42, 43, 44, 45] (by decide +kernel) (by decide +kernel)
set_option maxRecDepth 20000 in
theorem gX7_layWay_X7_heldNow : GoodIn wsX7_layWay (wsV RX7 94 RX7 yX7_heldNow wsX7_heldNow) := goodIn_app (goodIn_of _ (by decide +kernel)) ggX7_layWay_X7_heldNow
set_option maxRecDepth 20000 in
theorem ggX7_layWay_X7_layFar : GoodIn wsX7_layWay wsX7_layFar := goodIn_r _ [27, 3, 9, 15, 16, 7, 17, 18, 19, 20, 21, 22, 23, 28, 29, 30, 31, 14, 32, 33, 34, 35, 36, 37, 38, 39, 40, 41, 42, 43, 44, 45] (by decide +kernel) (by decide +kernel)
set_option maxRecDepth 20000 in
theorem gX7_layWay_X7_layFar : GoodIn wsX7_layWay (wsV RX7 103 RX7 yX7_layFar wsX7_layFar) := goodIn_app (goodIn_of _ (by decide +kernel)) ggX7_layWay_X7_layFar
set_option maxRecDepth 20000 in
theorem ggX7_layWay_X7_isLet : GoodIn wsX7_layWay wsX7_isLet := goodIn_r _ [31, 14, 9, 15, 16, 7, 17, 32, 33, 34, 35, 36, 37, 38, 39, 40, 41, 42, 43, 44, 45] (by decide +kernel) (by decide +kernel)
set_option maxRecDepth 20000 in
theorem gX7_layWay_X7_isLet : GoodIn wsX7_layWay (wsV RX7 97 RX7 yX7_isLet wsX7_isLet) := goodIn_app (goodIn_of _ (by decide +kernel)) ggX7_layWay_X7_isLet
theorem dX7_layWay_0 : decode cX7_layWay 0 = .ok (.aload_n 0, 1) := by decide +kernel
theorem dX7_layWay_1 : decode cX7_layWay 1 = .ok (.iload_n 1, 1) := by decide +kernel
theorem dX7_layWay_2 : decode cX7_layWay 2 = .ok (.iload_n 2, 1) := by decide +kernel
theorem dX7_layWay_3 : decode cX7_layWay 3 = .ok (.invokevirtual 94, 3) := by decide +kernel
theorem dX7_layWay_6 : decode cX7_layWay 6 = .ok (.istore_n 3, 1) := by decide +kernel
theorem dX7_layWay_7 : decode cX7_layWay 7 = .ok (.aload_n 0, 1) := by decide +kernel
theorem dX7_layWay_8 : decode cX7_layWay 8 = .ok (.iconst 0, 1) := by decide +kernel
theorem dX7_layWay_9 : decode cX7_layWay 9 = .ok (.putfield 100, 3) := by decide +kernel
theorem dX7_layWay_12 : decode cX7_layWay 12 = .ok (.iload_n 3, 1) := by decide +kernel
theorem dX7_layWay_13 : decode cX7_layWay 13 = .ok (.ifCond .ne 4, 3) := by decide +kernel
theorem dX7_layWay_16 : decode cX7_layWay 16 = .ok (.return_, 1) := by decide +kernel
theorem dX7_layWay_17 : decode cX7_layWay 17 = .ok (.aload_n 0, 1) := by decide +kernel
theorem dX7_layWay_18 : decode cX7_layWay 18 = .ok (.iload_n 2, 1) := by decide +kernel
theorem dX7_layWay_19 : decode cX7_layWay 19 = .ok (.iload_n 3, 1) := by decide +kernel
theorem dX7_layWay_20 : decode cX7_layWay 20 = .ok (.invokevirtual 103, 3) := by decide +kernel
theorem dX7_layWay_23 : decode cX7_layWay 23 = .ok (.iload_n 1, 1) := by decide +kernel
theorem dX7_layWay_24 : decode cX7_layWay 24 = .ok (.istore 4, 2) := by decide +kernel
theorem dX7_layWay_26 : decode cX7_layWay 26 = .ok (.aload_n 0, 1) := by decide +kernel
theorem dX7_layWay_27 : decode cX7_layWay 27 = .ok (.getfield 22, 3) := by decide +kernel
theorem dX7_layWay_30 : decode cX7_layWay 30 = .ok (.iconst 0, 1) := by decide +kernel
theorem dX7_layWay_31 : decode cX7_layWay 31 = .ok (.iload 4, 2) := by decide +kernel
theorem dX7_layWay_33 : decode cX7_layWay 33 = .ok (.iastore, 1) := by decide +kernel
theorem dX7_layWay_34 : decode cX7_layWay 34 = .ok (.aload_n 0, 1) := by decide +kernel
theorem dX7_layWay_35 : decode cX7_layWay 35 = .ok (.iconst 1, 1) := by decide +kernel
theorem dX7_layWay_36 : decode cX7_layWay 36 = .ok (.putfield 100, 3) := by decide +kernel
theorem dX7_layWay_39 : decode cX7_layWay 39 = .ok (.aload_n 0, 1) := by decide +kernel
theorem dX7_layWay_40 : decode cX7_layWay 40 = .ok (.getfield 25, 3) := by decide +kernel
theorem dX7_layWay_43 : decode cX7_layWay 43 = .ok (.iload 4, 2) := by decide +kernel
theorem dX7_layWay_45 : decode cX7_layWay 45 = .ok (.iaload, 1) := by decide +kernel
theorem dX7_layWay_46 : decode cX7_layWay 46 = .ok (.ifCond .le 71, 3) := by decide +kernel
theorem dX7_layWay_49 : decode cX7_layWay 49 = .ok (.iconst 0, 1) := by decide +kernel
theorem dX7_layWay_50 : decode cX7_layWay 50 = .ok (.istore 5, 2) := by decide +kernel
theorem dX7_layWay_52 : decode cX7_layWay 52 = .ok (.aload_n 0, 1) := by decide +kernel
theorem dX7_layWay_53 : decode cX7_layWay 53 = .ok (.iload 4, 2) := by decide +kernel
theorem dX7_layWay_55 : decode cX7_layWay 55 = .ok (.iload 5, 2) := by decide +kernel
theorem dX7_layWay_57 : decode cX7_layWay 57 = .ok (.iload_n 3, 1) := by decide +kernel
theorem dX7_layWay_58 : decode cX7_layWay 58 = .ok (.invokevirtual 97, 3) := by decide +kernel
theorem dX7_layWay_61 : decode cX7_layWay 61 = .ok (.ifCond .eq 22, 3) := by decide +kernel
theorem dX7_layWay_64 : decode cX7_layWay 64 = .ok (.aload_n 0, 1) := by decide +kernel
theorem dX7_layWay_65 : decode cX7_layWay 65 = .ok (.getfield 25, 3) := by decide +kernel
theorem dX7_layWay_68 : decode cX7_layWay 68 = .ok (.iload 5, 2) := by decide +kernel
theorem dX7_layWay_70 : decode cX7_layWay 70 = .ok (.iaload, 1) := by decide +kernel
theorem dX7_layWay_71 : decode cX7_layWay 71 = .ok (.iconst 1, 1) := by decide +kernel
theorem dX7_layWay_72 : decode cX7_layWay 72 = .ok (.iadd, 1) := by decide +kernel
theorem dX7_layWay_73 : decode cX7_layWay 73 = .ok (.aload_n 0, 1) := by decide +kernel
theorem dX7_layWay_74 : decode cX7_layWay 74 = .ok (.getfield 25, 3) := by decide +kernel
theorem dX7_layWay_77 : decode cX7_layWay 77 = .ok (.iload 4, 2) := by decide +kernel
theorem dX7_layWay_79 : decode cX7_layWay 79 = .ok (.iaload, 1) := by decide +kernel
theorem dX7_layWay_80 : decode cX7_layWay 80 = .ok (.if_icmp .eq 9, 3) := by decide +kernel
theorem dX7_layWay_83 : decode cX7_layWay 83 = .ok (.iinc 5 1, 3) := by decide +kernel
theorem dX7_layWay_86 : decode cX7_layWay 86 = .ok (.goto (-34), 3) := by decide +kernel
theorem dX7_layWay_89 : decode cX7_layWay 89 = .ok (.iload 5, 2) := by decide +kernel
theorem dX7_layWay_91 : decode cX7_layWay 91 = .ok (.istore 4, 2) := by decide +kernel
theorem dX7_layWay_93 : decode cX7_layWay 93 = .ok (.aload_n 0, 1) := by decide +kernel
theorem dX7_layWay_94 : decode cX7_layWay 94 = .ok (.getfield 22, 3) := by decide +kernel
theorem dX7_layWay_97 : decode cX7_layWay 97 = .ok (.aload_n 0, 1) := by decide +kernel
theorem dX7_layWay_98 : decode cX7_layWay 98 = .ok (.getfield 100, 3) := by decide +kernel
theorem dX7_layWay_101 : decode cX7_layWay 101 = .ok (.iload 4, 2) := by decide +kernel
theorem dX7_layWay_103 : decode cX7_layWay 103 = .ok (.iastore, 1) := by decide +kernel
theorem dX7_layWay_104 : decode cX7_layWay 104 = .ok (.aload_n 0, 1) := by decide +kernel
theorem dX7_layWay_105 : decode cX7_layWay 105 = .ok (.dup, 1) := by decide +kernel
theorem dX7_layWay_106 : decode cX7_layWay 106 = .ok (.getfield 100, 3) := by decide +kernel
theorem dX7_layWay_109 : decode cX7_layWay 109 = .ok (.iconst 1, 1) := by decide +kernel
theorem dX7_layWay_110 : decode cX7_layWay 110 = .ok (.iadd, 1) := by decide +kernel
theorem dX7_layWay_111 : decode cX7_layWay 111 = .ok (.putfield 100, 3) := by decide +kernel
theorem dX7_layWay_114 : decode cX7_layWay 114 = .ok (.goto (-75), 3) := by decide +kernel
theorem dX7_layWay_117 : decode cX7_layWay 117 = .ok (.return_, 1) := by decide +kernel
set_option maxRecDepth 20000 in
theorem ggX7_way_X7_isPart : GoodIn wsX7_way wsX7_isPart := goodIn_r _ [7, 8, 9, 10, 6, 11, 12, 13, 14, 43, 44, 45, 46, 47, 48, 49, 50, 51, 52, 53, 54, 55, 56] (by decide +kernel) (by decide +kernel)
set_option maxRecDepth 20000 in
theorem gX7_way_X7_isPart : GoodIn wsX7_way (wsV RX7 71 RX7 yX7_isPart wsX7_isPart) := goodIn_app (goodIn_of _ (by decide +kernel)) ggX7_way_X7_isPart
set_option maxRecDepth 20000 in
theorem ggX7_way_X7_within : GoodIn wsX7_way wsX7_within := goodIn_r _ [11] (by decide +kernel) (by decide +kernel)
set_option maxRecDepth 20000 in
theorem gX7_way_X7_within : GoodIn wsX7_way (va_wsS RX7 31 yX7_within wsX7_within) := goodIn_app (goodIn_of _ (by decide +kernel)) ggX7_way_X7_within
set_option maxRecDepth 20000 in
theorem ggX7_way_X7_layWay : GoodIn wsX7_way wsX7_layWay := goodIn_r _ [18, 1, 2, 19, 20, 21, 22, 6, 23, 8, 24, 25, 26, 27, 28, 12, 13, 14, 29, 30, 31, 32, 33, 34, 35, 36, 37, 38, 39, 40, 41, 42, 43, 44, 45, 46, 47, 48, 49, 50, 51, 52, 53, 54, 55, 56] (by decide +kernel) (by decide +kernel)
set_option maxRecDepth 20000 in
theorem gX7_way_X7_layWay : GoodIn wsX7_way (wsV RX7 107 RX7 yX7_layWay wsX7_layWay) := goodIn_app (goodIn_of _ (by decide +kernel)) ggX7_way_X7_layWay
end
section
theorem dX7_way_0 : decode cX7_way 0 = .ok (.aload_n 0, 1) := by decide +kernel
theorem dX7_way_1 : decode cX7_way 1 = .ok (.iload_n 1, 1) := by decide +kernel
theorem dX7_way_2 : decode cX7_way 2 = .ok (.invokevirtual 71, 3) := by decide +kernel
theorem dX7_way_5 : decode cX7_way 5 = .ok (.ifCond .ne 7, 3) := by decide +kernel
theorem dX7_way_8 : decode cX7_way 8 = .ok (.sipush (-1001), 3) := by decide +kernel
theorem dX7_way_11 : decode cX7_way 11 = .ok (.ireturn, 1) := by decide +kernel
theorem dX7_way_12 : decode cX7_way 12 = .ok (.iload_n 2, 1) := by decide +kernel
theorem dX7_way_13 : decode cX7_way 13 = .ok (.iconst 0, 1) := by decide +kernel
theorem dX7_way_14 : decode cX7_way 14 = .ok (.bipush 11, 2) := by decide +kernel
theorem dX7_way_16 : decode cX7_way 16 = .ok (.invokestatic 31, 3) := by decide +kernel
theorem dX7_way_19 : decode cX7_way 19 = .ok (.ifCond .ne 7, 3) := by decide +kernel
theorem dX7_way_22 : decode cX7_way 22 = .ok (.sipush (-1002), 3) := by decide +kernel
theorem dX7_way_25 : decode cX7_way 25 = .ok (.ireturn, 1) := by decide +kernel
theorem dX7_way_26 : decode cX7_way 26 = .ok (.aload_n 0, 1) := by decide +kernel
theorem dX7_way_27 : decode cX7_way 27 = .ok (.iload_n 1, 1) := by decide +kernel
theorem dX7_way_28 : decode cX7_way 28 = .ok (.iload_n 2, 1) := by decide +kernel
theorem dX7_way_29 : decode cX7_way 29 = .ok (.invokevirtual 107, 3) := by decide +kernel
theorem dX7_way_32 : decode cX7_way 32 = .ok (.iload_n 3, 1) := by decide +kernel
theorem dX7_way_33 : decode cX7_way 33 = .ok (.iconst 0, 1) := by decide +kernel
theorem dX7_way_34 : decode cX7_way 34 = .ok (.aload_n 0, 1) := by decide +kernel
theorem dX7_way_35 : decode cX7_way 35 = .ok (.getfield 100, 3) := by decide +kernel
theorem dX7_way_38 : decode cX7_way 38 = .ok (.iconst 1, 1) := by decide +kernel
theorem dX7_way_39 : decode cX7_way 39 = .ok (.isub, 1) := by decide +kernel
theorem dX7_way_40 : decode cX7_way 40 = .ok (.invokestatic 31, 3) := by decide +kernel
theorem dX7_way_43 : decode cX7_way 43 = .ok (.ifCond .eq 12, 3) := by decide +kernel
theorem dX7_way_46 : decode cX7_way 46 = .ok (.aload_n 0, 1) := by decide +kernel
theorem dX7_way_47 : decode cX7_way 47 = .ok (.getfield 22, 3) := by decide +kernel
theorem dX7_way_50 : decode cX7_way 50 = .ok (.iload_n 3, 1) := by decide +kernel
theorem dX7_way_51 : decode cX7_way 51 = .ok (.iaload, 1) := by decide +kernel
theorem dX7_way_52 : decode cX7_way 52 = .ok (.goto 4, 3) := by decide +kernel
theorem dX7_way_55 : decode cX7_way 55 = .ok (.iconst (-1), 1) := by decide +kernel
theorem dX7_way_56 : decode cX7_way 56 = .ok (.ireturn, 1) := by decide +kernel
set_option maxRecDepth 20000 in
theorem ggX7_namesOf_X7_isLet : GoodIn wsX7_namesOf wsX7_isLet := goodIn_r _ [5, 6, 7, 8, 9, 4, 10, 11, 12, 13, 14, 15, 16, 17, 18, 19, 20, 21, 22, 23, 24] (by decide +kernel) (by decide +kernel)
set_option maxRecDepth 20000 in
theorem gX7_namesOf_X7_isLet : GoodIn wsX7_namesOf (wsV RX7 97 RX7 yX7_isLet wsX7_isLet) := goodIn_app (goodIn_of _ (by decide +kernel)) ggX7_namesOf_X7_isLet
set_option maxRecDepth 20000 in
theorem ggX7_namesOf_X7_has : GoodIn wsX7_namesOf wsX7_has := goodIn_r _ [10] (by decide +kernel) (by decide +kernel)
set_option maxRecDepth 20000 in
theorem gX7_namesOf_X7_has : GoodIn wsX7_namesOf (va_wsS RX7 68 yX7_has wsX7_has) := goodIn_app (goodIn_of _ (by decide +kernel)) ggX7_namesOf_X7_has
theorem dX7_namesOf_0 : decode cX7_namesOf 0 = .ok (.iconst 1, 1) := by decide +kernel
theorem dX7_namesOf_1 : decode cX7_namesOf 1 = .ok (.iload_n 1, 1) := by decide +kernel
theorem dX7_namesOf_2 : decode cX7_namesOf 2 = .ok (.ishl, 1) := by decide +kernel
theorem dX7_namesOf_3 : decode cX7_namesOf 3 = .ok (.istore_n 2, 1) := by decide +kernel
theorem dX7_namesOf_4 : decode cX7_namesOf 4 = .ok (.iconst 0, 1) := by decide +kernel
theorem dX7_namesOf_5 : decode cX7_namesOf 5 = .ok (.istore_n 3, 1) := by decide +kernel
theorem dX7_namesOf_6 : decode cX7_namesOf 6 = .ok (.iload_n 3, 1) := by decide +kernel
theorem dX7_namesOf_7 : decode cX7_namesOf 7 = .ok (.iload_n 2, 1) := by decide +kernel
theorem dX7_namesOf_8 : decode cX7_namesOf 8 = .ok (.if_icmp .eq 72, 3) := by decide +kernel
theorem dX7_namesOf_11 : decode cX7_namesOf 11 = .ok (.iload_n 2, 1) := by decide +kernel
theorem dX7_namesOf_12 : decode cX7_namesOf 12 = .ok (.istore_n 3, 1) := by decide +kernel
theorem dX7_namesOf_13 : decode cX7_namesOf 13 = .ok (.iconst 0, 1) := by decide +kernel
theorem dX7_namesOf_14 : decode cX7_namesOf 14 = .ok (.istore 4, 2) := by decide +kernel
theorem dX7_namesOf_16 : decode cX7_namesOf 16 = .ok (.iload 4, 2) := by decide +kernel
theorem dX7_namesOf_18 : decode cX7_namesOf 18 = .ok (.bipush 64, 2) := by decide +kernel
theorem dX7_namesOf_20 : decode cX7_namesOf 20 = .ok (.if_icmp .ge 57, 3) := by decide +kernel
theorem dX7_namesOf_23 : decode cX7_namesOf 23 = .ok (.aload_n 0, 1) := by decide +kernel
theorem dX7_namesOf_24 : decode cX7_namesOf 24 = .ok (.iload 4, 2) := by decide +kernel
theorem dX7_namesOf_26 : decode cX7_namesOf 26 = .ok (.bipush 8, 2) := by decide +kernel
theorem dX7_namesOf_28 : decode cX7_namesOf 28 = .ok (.idiv, 1) := by decide +kernel
theorem dX7_namesOf_29 : decode cX7_namesOf 29 = .ok (.iload 4, 2) := by decide +kernel
theorem dX7_namesOf_31 : decode cX7_namesOf 31 = .ok (.bipush 8, 2) := by decide +kernel
theorem dX7_namesOf_33 : decode cX7_namesOf 33 = .ok (.irem, 1) := by decide +kernel
theorem dX7_namesOf_34 : decode cX7_namesOf 34 = .ok (.iconst 2, 1) := by decide +kernel
theorem dX7_namesOf_35 : decode cX7_namesOf 35 = .ok (.invokevirtual 97, 3) := by decide +kernel
theorem dX7_namesOf_38 : decode cX7_namesOf 38 = .ok (.istore 5, 2) := by decide +kernel
theorem dX7_namesOf_40 : decode cX7_namesOf 40 = .ok (.iload_n 2, 1) := by decide +kernel
theorem dX7_namesOf_41 : decode cX7_namesOf 41 = .ok (.iload 5, 2) := by decide +kernel
theorem dX7_namesOf_43 : decode cX7_namesOf 43 = .ok (.ifCond .eq 25, 3) := by decide +kernel
theorem dX7_namesOf_46 : decode cX7_namesOf 46 = .ok (.iload_n 3, 1) := by decide +kernel
theorem dX7_namesOf_47 : decode cX7_namesOf 47 = .ok (.iload 4, 2) := by decide +kernel
theorem dX7_namesOf_49 : decode cX7_namesOf 49 = .ok (.bipush 8, 2) := by decide +kernel
theorem dX7_namesOf_51 : decode cX7_namesOf 51 = .ok (.idiv, 1) := by decide +kernel
theorem dX7_namesOf_52 : decode cX7_namesOf 52 = .ok (.invokestatic 68, 3) := by decide +kernel
theorem dX7_namesOf_55 : decode cX7_namesOf 55 = .ok (.ifCond .eq 13, 3) := by decide +kernel
theorem dX7_namesOf_58 : decode cX7_namesOf 58 = .ok (.iconst 1, 1) := by decide +kernel
theorem dX7_namesOf_59 : decode cX7_namesOf 59 = .ok (.iload 4, 2) := by decide +kernel
theorem dX7_namesOf_61 : decode cX7_namesOf 61 = .ok (.bipush 8, 2) := by decide +kernel
theorem dX7_namesOf_63 : decode cX7_namesOf 63 = .ok (.irem, 1) := by decide +kernel
theorem dX7_namesOf_64 : decode cX7_namesOf 64 = .ok (.ishl, 1) := by decide +kernel
theorem dX7_namesOf_65 : decode cX7_namesOf 65 = .ok (.goto 4, 3) := by decide +kernel
theorem dX7_namesOf_68 : decode cX7_namesOf 68 = .ok (.iconst 0, 1) := by decide +kernel
theorem dX7_namesOf_69 : decode cX7_namesOf 69 = .ok (.ior, 1) := by decide +kernel
theorem dX7_namesOf_70 : decode cX7_namesOf 70 = .ok (.istore_n 2, 1) := by decide +kernel
theorem dX7_namesOf_71 : decode cX7_namesOf 71 = .ok (.iinc 4 1, 3) := by decide +kernel
theorem dX7_namesOf_74 : decode cX7_namesOf 74 = .ok (.goto (-58), 3) := by decide +kernel
theorem dX7_namesOf_77 : decode cX7_namesOf 77 = .ok (.goto (-71), 3) := by decide +kernel
theorem dX7_namesOf_80 : decode cX7_namesOf 80 = .ok (.iload_n 2, 1) := by decide +kernel
theorem dX7_namesOf_81 : decode cX7_namesOf 81 = .ok (.iconst 1, 1) := by decide +kernel
theorem dX7_namesOf_82 : decode cX7_namesOf 82 = .ok (.iload_n 1, 1) := by decide +kernel
theorem dX7_namesOf_83 : decode cX7_namesOf 83 = .ok (.ishl, 1) := by decide +kernel
theorem dX7_namesOf_84 : decode cX7_namesOf 84 = .ok (.iconst (-1), 1) := by decide +kernel
theorem dX7_namesOf_85 : decode cX7_namesOf 85 = .ok (.ixor, 1) := by decide +kernel
theorem dX7_namesOf_86 : decode cX7_namesOf 86 = .ok (.iand, 1) := by decide +kernel
theorem dX7_namesOf_87 : decode cX7_namesOf 87 = .ok (.ireturn, 1) := by decide +kernel
set_option maxRecDepth 20000 in
theorem ggX7_actsOf_X7_heldBy : GoodIn wsX7_actsOf wsX7_heldBy := goodIn_r _ [6, 7, 8, 9, 5, 10, 11, 12, 13, 14, 15, 16, 17, 18, 19, 20, 21, 22, 23, 24, 25, 26, 27, 28, 29, 30, 31, 32, 33, 34] (by decide +kernel) (by decide +kernel)
set_option maxRecDepth 20000 in
theorem gX7_actsOf_X7_heldBy : GoodIn wsX7_actsOf (wsV RX7 91 RX7 yX7_heldBy wsX7_heldBy) := goodIn_app (goodIn_of _ (by decide +kernel)) ggX7_actsOf_X7_heldBy
set_option maxRecDepth 20000 in
theorem ggX7_actsOf_X7_has : GoodIn wsX7_actsOf wsX7_has := goodIn_r _ [14] (by decide +kernel) (by decide +kernel)
set_option maxRecDepth 20000 in
theorem gX7_actsOf_X7_has : GoodIn wsX7_actsOf (va_wsS RX7 68 yX7_has wsX7_has) := goodIn_app (goodIn_of _ (by decide +kernel)) ggX7_actsOf_X7_has
theorem dX7_actsOf_0 : decode cX7_actsOf 0 = .ok (.iconst 0, 1) := by decide +kernel
theorem dX7_actsOf_1 : decode cX7_actsOf 1 = .ok (.istore_n 3, 1) := by decide +kernel
theorem dX7_actsOf_2 : decode cX7_actsOf 2 = .ok (.iconst 0, 1) := by decide +kernel
theorem dX7_actsOf_3 : decode cX7_actsOf 3 = .ok (.istore 4, 2) := by decide +kernel
theorem dX7_actsOf_5 : decode cX7_actsOf 5 = .ok (.iload 4, 2) := by decide +kernel
theorem dX7_actsOf_7 : decode cX7_actsOf 7 = .ok (.bipush 6, 2) := by decide +kernel
theorem dX7_actsOf_9 : decode cX7_actsOf 9 = .ok (.if_icmp .ge 97, 3) := by decide +kernel
theorem dX7_actsOf_12 : decode cX7_actsOf 12 = .ok (.aload_n 0, 1) := by decide +kernel
theorem dX7_actsOf_13 : decode cX7_actsOf 13 = .ok (.aload_n 0, 1) := by decide +kernel
theorem dX7_actsOf_14 : decode cX7_actsOf 14 = .ok (.getfield 65, 3) := by decide +kernel
theorem dX7_actsOf_17 : decode cX7_actsOf 17 = .ok (.iload 4, 2) := by decide +kernel
theorem dX7_actsOf_19 : decode cX7_actsOf 19 = .ok (.invokevirtual 91, 3) := by decide +kernel
theorem dX7_actsOf_22 : decode cX7_actsOf 22 = .ok (.iload_n 1, 1) := by decide +kernel
theorem dX7_actsOf_23 : decode cX7_actsOf 23 = .ok (.invokestatic 68, 3) := by decide +kernel
theorem dX7_actsOf_26 : decode cX7_actsOf 26 = .ok (.istore 5, 2) := by decide +kernel
theorem dX7_actsOf_28 : decode cX7_actsOf 28 = .ok (.aload_n 0, 1) := by decide +kernel
theorem dX7_actsOf_29 : decode cX7_actsOf 29 = .ok (.aload_n 0, 1) := by decide +kernel
theorem dX7_actsOf_30 : decode cX7_actsOf 30 = .ok (.getfield 65, 3) := by decide +kernel
theorem dX7_actsOf_33 : decode cX7_actsOf 33 = .ok (.iload 4, 2) := by decide +kernel
theorem dX7_actsOf_35 : decode cX7_actsOf 35 = .ok (.bipush 6, 2) := by decide +kernel
theorem dX7_actsOf_37 : decode cX7_actsOf 37 = .ok (.iadd, 1) := by decide +kernel
theorem dX7_actsOf_38 : decode cX7_actsOf 38 = .ok (.invokevirtual 91, 3) := by decide +kernel
theorem dX7_actsOf_41 : decode cX7_actsOf 41 = .ok (.iload_n 1, 1) := by decide +kernel
theorem dX7_actsOf_42 : decode cX7_actsOf 42 = .ok (.invokestatic 68, 3) := by decide +kernel
theorem dX7_actsOf_45 : decode cX7_actsOf 45 = .ok (.istore 6, 2) := by decide +kernel
theorem dX7_actsOf_47 : decode cX7_actsOf 47 = .ok (.iload_n 2, 1) := by decide +kernel
theorem dX7_actsOf_48 : decode cX7_actsOf 48 = .ok (.iconst 1, 1) := by decide +kernel
theorem dX7_actsOf_49 : decode cX7_actsOf 49 = .ok (.if_icmp .ne 8, 3) := by decide +kernel
theorem dX7_actsOf_52 : decode cX7_actsOf 52 = .ok (.iload 5, 2) := by decide +kernel
theorem dX7_actsOf_54 : decode cX7_actsOf 54 = .ok (.goto 28, 3) := by decide +kernel
theorem dX7_actsOf_57 : decode cX7_actsOf 57 = .ok (.iload_n 2, 1) := by decide +kernel
theorem dX7_actsOf_58 : decode cX7_actsOf 58 = .ok (.iconst 2, 1) := by decide +kernel
theorem dX7_actsOf_59 : decode cX7_actsOf 59 = .ok (.if_icmp .ne 8, 3) := by decide +kernel
theorem dX7_actsOf_62 : decode cX7_actsOf 62 = .ok (.iload 6, 2) := by decide +kernel
theorem dX7_actsOf_64 : decode cX7_actsOf 64 = .ok (.goto 18, 3) := by decide +kernel
theorem dX7_actsOf_67 : decode cX7_actsOf 67 = .ok (.iload 5, 2) := by decide +kernel
theorem dX7_actsOf_69 : decode cX7_actsOf 69 = .ok (.ifCond .eq 12, 3) := by decide +kernel
theorem dX7_actsOf_72 : decode cX7_actsOf 72 = .ok (.iload 6, 2) := by decide +kernel
theorem dX7_actsOf_74 : decode cX7_actsOf 74 = .ok (.ifCond .eq 7, 3) := by decide +kernel
theorem dX7_actsOf_77 : decode cX7_actsOf 77 = .ok (.iconst 1, 1) := by decide +kernel
theorem dX7_actsOf_78 : decode cX7_actsOf 78 = .ok (.goto 4, 3) := by decide +kernel
theorem dX7_actsOf_81 : decode cX7_actsOf 81 = .ok (.iconst 0, 1) := by decide +kernel
theorem dX7_actsOf_82 : decode cX7_actsOf 82 = .ok (.istore 7, 2) := by decide +kernel
theorem dX7_actsOf_84 : decode cX7_actsOf 84 = .ok (.iload_n 3, 1) := by decide +kernel
theorem dX7_actsOf_85 : decode cX7_actsOf 85 = .ok (.iload 7, 2) := by decide +kernel
theorem dX7_actsOf_87 : decode cX7_actsOf 87 = .ok (.ifCond .eq 10, 3) := by decide +kernel
theorem dX7_actsOf_90 : decode cX7_actsOf 90 = .ok (.iconst 1, 1) := by decide +kernel
theorem dX7_actsOf_91 : decode cX7_actsOf 91 = .ok (.iload 4, 2) := by decide +kernel
theorem dX7_actsOf_93 : decode cX7_actsOf 93 = .ok (.ishl, 1) := by decide +kernel
theorem dX7_actsOf_94 : decode cX7_actsOf 94 = .ok (.goto 4, 3) := by decide +kernel
theorem dX7_actsOf_97 : decode cX7_actsOf 97 = .ok (.iconst 0, 1) := by decide +kernel
theorem dX7_actsOf_98 : decode cX7_actsOf 98 = .ok (.ior, 1) := by decide +kernel
theorem dX7_actsOf_99 : decode cX7_actsOf 99 = .ok (.istore_n 3, 1) := by decide +kernel
theorem dX7_actsOf_100 : decode cX7_actsOf 100 = .ok (.iinc 4 1, 3) := by decide +kernel
theorem dX7_actsOf_103 : decode cX7_actsOf 103 = .ok (.goto (-98), 3) := by decide +kernel
theorem dX7_actsOf_106 : decode cX7_actsOf 106 = .ok (.iload_n 3, 1) := by decide +kernel
theorem dX7_actsOf_107 : decode cX7_actsOf 107 = .ok (.ireturn, 1) := by decide +kernel
set_option maxRecDepth 20000 in
theorem ggX7_partNow_X7_namesOf : GoodIn wsX7_partNow wsX7_namesOf := goodIn_r _ [6, 7, 8, 9, 5, 10, 11, 12, 13, 14, 15, 41, 42, 43, 44, 45, 46, 47, 48, 49, 50, 51, 52, 53, 54] (by decide +kernel) (by decide +kernel)
set_option maxRecDepth 20000 in
theorem gX7_partNow_X7_namesOf : GoodIn wsX7_partNow (wsV RX7 110 RX7 yX7_namesOf wsX7_namesOf) := goodIn_app (goodIn_of _ (by decide +kernel)) ggX7_partNow_X7_namesOf
set_option maxRecDepth 20000 in
theorem ggX7_partNow_X7_usesOf : GoodIn wsX7_partNow wsX7_usesOf := goodIn_r _ [19, 12, 11, 13, 14, 5, 15, 41, 42, 43, 44, 45, 46, 47, 48, 49, 50, 51, 52, 53, 54] (by decide +kernel) (by decide +kernel)
set_option maxRecDepth 20000 in
theorem gX7_partNow_X7_usesOf : GoodIn wsX7_partNow (wsV RX7 74 RX7 yX7_usesOf wsX7_usesOf) := goodIn_app (goodIn_of _ (by decide +kernel)) ggX7_partNow_X7_usesOf
set_option maxRecDepth 20000 in
theorem ggX7_partNow_X7_usersOf : GoodIn wsX7_partNow wsX7_usersOf := goodIn_r _ [23, 12, 11, 13, 14, 5, 15, 41, 42, 43, 44, 45, 46, 47, 48, 49, 50, 51, 52, 53, 54] (by decide +kernel) (by decide +kernel)
set_option maxRecDepth 20000 in
theorem gX7_partNow_X7_usersOf : GoodIn wsX7_partNow (wsV RX7 77 RX7 yX7_usersOf wsX7_usersOf) := goodIn_app (goodIn_of _ (by decide +kernel)) ggX7_partNow_X7_usersOf
set_option maxRecDepth 20000 in
theorem ggX7_partNow_X7_actsOf : GoodIn wsX7_partNow wsX7_actsOf := goodIn_r _ [27, 12, 28, 29, 30, 5, 31, 32, 33, 34, 35, 11, 13, 14, 15, 36, 37, 38, 39, 40, 1, 41, 42, 43, 44, 45, 46, 47, 48, 49, 50, 51, 52, 53, 54] (by decide +kernel) (by decide +kernel)
set_option maxRecDepth 20000 in
theorem gX7_partNow_X7_actsOf : GoodIn wsX7_partNow (wsV RX7 113 RX7 yX7_actsOf wsX7_actsOf) := goodIn_app (goodIn_of _ (by decide +kernel)) ggX7_partNow_X7_actsOf
theorem dX7_partNow_0 : decode cX7_partNow 0 = .ok (.iload_n 2, 1) := by decide +kernel
theorem dX7_partNow_1 : decode cX7_partNow 1 = .ok (.tableswitch 68 0 6 #[43, 68, 68, 68, 50, 56, 62], 43) := by decide +kernel
theorem dX7_partNow_44 : decode cX7_partNow 44 = .ok (.aload_n 0, 1) := by decide +kernel
theorem dX7_partNow_45 : decode cX7_partNow 45 = .ok (.getfield 16, 3) := by decide +kernel
theorem dX7_partNow_48 : decode cX7_partNow 48 = .ok (.iload_n 1, 1) := by decide +kernel
theorem dX7_partNow_49 : decode cX7_partNow 49 = .ok (.iaload, 1) := by decide +kernel
theorem dX7_partNow_50 : decode cX7_partNow 50 = .ok (.ireturn, 1) := by decide +kernel
theorem dX7_partNow_51 : decode cX7_partNow 51 = .ok (.aload_n 0, 1) := by decide +kernel
theorem dX7_partNow_52 : decode cX7_partNow 52 = .ok (.iload_n 1, 1) := by decide +kernel
theorem dX7_partNow_53 : decode cX7_partNow 53 = .ok (.invokevirtual 110, 3) := by decide +kernel
theorem dX7_partNow_56 : decode cX7_partNow 56 = .ok (.ireturn, 1) := by decide +kernel
theorem dX7_partNow_57 : decode cX7_partNow 57 = .ok (.aload_n 0, 1) := by decide +kernel
theorem dX7_partNow_58 : decode cX7_partNow 58 = .ok (.iload_n 1, 1) := by decide +kernel
theorem dX7_partNow_59 : decode cX7_partNow 59 = .ok (.invokevirtual 74, 3) := by decide +kernel
theorem dX7_partNow_62 : decode cX7_partNow 62 = .ok (.ireturn, 1) := by decide +kernel
theorem dX7_partNow_63 : decode cX7_partNow 63 = .ok (.aload_n 0, 1) := by decide +kernel
theorem dX7_partNow_64 : decode cX7_partNow 64 = .ok (.iload_n 1, 1) := by decide +kernel
theorem dX7_partNow_65 : decode cX7_partNow 65 = .ok (.invokevirtual 77, 3) := by decide +kernel
theorem dX7_partNow_68 : decode cX7_partNow 68 = .ok (.ireturn, 1) := by decide +kernel
theorem dX7_partNow_69 : decode cX7_partNow 69 = .ok (.aload_n 0, 1) := by decide +kernel
theorem dX7_partNow_70 : decode cX7_partNow 70 = .ok (.iload_n 1, 1) := by decide +kernel
theorem dX7_partNow_71 : decode cX7_partNow 71 = .ok (.iload_n 2, 1) := by decide +kernel
theorem dX7_partNow_72 : decode cX7_partNow 72 = .ok (.invokevirtual 113, 3) := by decide +kernel
theorem dX7_partNow_75 : decode cX7_partNow 75 = .ok (.ireturn, 1) := by decide +kernel
set_option maxRecDepth 20000 in
theorem ggX7_of_X7_isPart : GoodIn wsX7_of wsX7_isPart := goodIn_r _ [5, 6, 7, 8, 4, 9, 10, 11, 12, 52, 53, 54, 55, 56, 57, 58, 59, 60, 61, 62, 63, 64, 65] (by decide +kernel) (by decide +kernel)
set_option maxRecDepth 20000 in
theorem gX7_of_X7_isPart : GoodIn wsX7_of (wsV RX7 71 RX7 yX7_isPart wsX7_isPart) := goodIn_app (goodIn_of _ (by decide +kernel)) ggX7_of_X7_isPart
set_option maxRecDepth 20000 in
theorem ggX7_of_X7_within : GoodIn wsX7_of wsX7_within := goodIn_r _ [9] (by decide +kernel) (by decide +kernel)
set_option maxRecDepth 20000 in
theorem gX7_of_X7_within : GoodIn wsX7_of (va_wsS RX7 31 yX7_within wsX7_within) := goodIn_app (goodIn_of _ (by decide +kernel)) ggX7_of_X7_within
set_option maxRecDepth 20000 in
theorem ggX7_of_X7_partNow : GoodIn wsX7_of wsX7_partNow := goodIn_r _ [16, 17, 18, 19, 20, 4, 21, 22, 23, 24, 25, 26, 6, 10, 11, 12, 27, 28, 29, 30, 31, 32, 33, 34, 35, 36, 37, 38, 39, 40, 41, 42, 43, 44, 45, 46, 47, 48, 49, 50, 51, 52, 53, 54, 55, 56, 57, 58, 59, 60, 61, 62, 63, 64, 65] (by decide +kernel) (by decide +kernel)
set_option maxRecDepth 20000 in
theorem gX7_of_X7_partNow : GoodIn wsX7_of (wsV RX7 116 RX7 yX7_partNow wsX7_partNow) := goodIn_app (goodIn_of _ (by decide +kernel)) ggX7_of_X7_partNow
theorem dX7_of_0 : decode cX7_of 0 = .ok (.aload_n 0, 1) := by decide +kernel
theorem dX7_of_1 : decode cX7_of 1 = .ok (.iload_n 1, 1) := by decide +kernel
theorem dX7_of_2 : decode cX7_of 2 = .ok (.invokevirtual 71, 3) := by decide +kernel
theorem dX7_of_5 : decode cX7_of 5 = .ok (.ifCond .ne 7, 3) := by decide +kernel
theorem dX7_of_8 : decode cX7_of 8 = .ok (.sipush (-1001), 3) := by decide +kernel
theorem dX7_of_11 : decode cX7_of 11 = .ok (.ireturn, 1) := by decide +kernel
theorem dX7_of_12 : decode cX7_of 12 = .ok (.iload_n 2, 1) := by decide +kernel
theorem dX7_of_13 : decode cX7_of 13 = .ok (.iconst 0, 1) := by decide +kernel
theorem dX7_of_14 : decode cX7_of 14 = .ok (.bipush 6, 2) := by decide +kernel
theorem dX7_of_16 : decode cX7_of 16 = .ok (.invokestatic 31, 3) := by decide +kernel
theorem dX7_of_19 : decode cX7_of 19 = .ok (.ifCond .eq 12, 3) := by decide +kernel
theorem dX7_of_22 : decode cX7_of 22 = .ok (.aload_n 0, 1) := by decide +kernel
theorem dX7_of_23 : decode cX7_of 23 = .ok (.iload_n 1, 1) := by decide +kernel
theorem dX7_of_24 : decode cX7_of 24 = .ok (.iload_n 2, 1) := by decide +kernel
theorem dX7_of_25 : decode cX7_of 25 = .ok (.invokevirtual 116, 3) := by decide +kernel
theorem dX7_of_28 : decode cX7_of 28 = .ok (.goto 6, 3) := by decide +kernel
theorem dX7_of_31 : decode cX7_of 31 = .ok (.sipush (-1002), 3) := by decide +kernel
theorem dX7_of_34 : decode cX7_of 34 = .ok (.ireturn, 1) := by decide +kernel
set_option maxRecDepth 20000 in
theorem ggX7_layClashes_X7_clashing : GoodIn wsX7_layClashes wsX7_clashing := goodIn_r _ [8, 9, 10, 11, 7, 12, 13, 14, 15, 16, 17, 18, 19, 20, 21, 22, 23, 24, 25, 26, 27, 28, 29, 30, 31, 32, 33, 34, 35, 36, 37, 38, 39, 40] (by decide +kernel) (by decide +kernel)
set_option maxRecDepth 20000 in
theorem gX7_layClashes_X7_clashing : GoodIn wsX7_layClashes (wsV RX7 122 RX7 yX7_clashing wsX7_clashing) := goodIn_app (goodIn_of _ (by decide +kernel)) ggX7_layClashes_X7_clashing
set_option maxRecDepth 20000 in
theorem ggX7_layClashes_X7_has : GoodIn wsX7_layClashes wsX7_has := goodIn_r _ [20] (by decide +kernel) (by decide +kernel)
set_option maxRecDepth 20000 in
theorem gX7_layClashes_X7_has : GoodIn wsX7_layClashes (va_wsS RX7 68 yX7_has wsX7_has) := goodIn_app (goodIn_of _ (by decide +kernel)) ggX7_layClashes_X7_has
theorem dX7_layClashes_0 : decode cX7_layClashes 0 = .ok (.aload_n 0, 1) := by decide +kernel
theorem dX7_layClashes_1 : decode cX7_layClashes 1 = .ok (.iconst 0, 1) := by decide +kernel
theorem dX7_layClashes_2 : decode cX7_layClashes 2 = .ok (.putfield 119, 3) := by decide +kernel
theorem dX7_layClashes_5 : decode cX7_layClashes 5 = .ok (.iconst 0, 1) := by decide +kernel
theorem dX7_layClashes_6 : decode cX7_layClashes 6 = .ok (.istore_n 1, 1) := by decide +kernel
theorem dX7_layClashes_7 : decode cX7_layClashes 7 = .ok (.iload_n 1, 1) := by decide +kernel
theorem dX7_layClashes_8 : decode cX7_layClashes 8 = .ok (.bipush 8, 2) := by decide +kernel
theorem dX7_layClashes_10 : decode cX7_layClashes 10 = .ok (.if_icmp .ge 64, 3) := by decide +kernel
theorem dX7_layClashes_13 : decode cX7_layClashes 13 = .ok (.iconst 0, 1) := by decide +kernel
theorem dX7_layClashes_14 : decode cX7_layClashes 14 = .ok (.istore_n 2, 1) := by decide +kernel
theorem dX7_layClashes_15 : decode cX7_layClashes 15 = .ok (.iload_n 2, 1) := by decide +kernel
theorem dX7_layClashes_16 : decode cX7_layClashes 16 = .ok (.bipush 6, 2) := by decide +kernel
theorem dX7_layClashes_18 : decode cX7_layClashes 18 = .ok (.if_icmp .ge 50, 3) := by decide +kernel
theorem dX7_layClashes_21 : decode cX7_layClashes 21 = .ok (.aload_n 0, 1) := by decide +kernel
theorem dX7_layClashes_22 : decode cX7_layClashes 22 = .ok (.aload_n 0, 1) := by decide +kernel
theorem dX7_layClashes_23 : decode cX7_layClashes 23 = .ok (.getfield 65, 3) := by decide +kernel
theorem dX7_layClashes_26 : decode cX7_layClashes 26 = .ok (.iload_n 2, 1) := by decide +kernel
theorem dX7_layClashes_27 : decode cX7_layClashes 27 = .ok (.invokevirtual 122, 3) := by decide +kernel
theorem dX7_layClashes_30 : decode cX7_layClashes 30 = .ok (.iload_n 1, 1) := by decide +kernel
theorem dX7_layClashes_31 : decode cX7_layClashes 31 = .ok (.invokestatic 68, 3) := by decide +kernel
theorem dX7_layClashes_34 : decode cX7_layClashes 34 = .ok (.ifCond .eq 28, 3) := by decide +kernel
theorem dX7_layClashes_37 : decode cX7_layClashes 37 = .ok (.aload_n 0, 1) := by decide +kernel
theorem dX7_layClashes_38 : decode cX7_layClashes 38 = .ok (.getfield 28, 3) := by decide +kernel
theorem dX7_layClashes_41 : decode cX7_layClashes 41 = .ok (.aload_n 0, 1) := by decide +kernel
theorem dX7_layClashes_42 : decode cX7_layClashes 42 = .ok (.getfield 119, 3) := by decide +kernel
theorem dX7_layClashes_45 : decode cX7_layClashes 45 = .ok (.bipush 6, 2) := by decide +kernel
theorem dX7_layClashes_47 : decode cX7_layClashes 47 = .ok (.iload_n 1, 1) := by decide +kernel
theorem dX7_layClashes_48 : decode cX7_layClashes 48 = .ok (.imul, 1) := by decide +kernel
theorem dX7_layClashes_49 : decode cX7_layClashes 49 = .ok (.iload_n 2, 1) := by decide +kernel
theorem dX7_layClashes_50 : decode cX7_layClashes 50 = .ok (.iadd, 1) := by decide +kernel
theorem dX7_layClashes_51 : decode cX7_layClashes 51 = .ok (.iastore, 1) := by decide +kernel
theorem dX7_layClashes_52 : decode cX7_layClashes 52 = .ok (.aload_n 0, 1) := by decide +kernel
theorem dX7_layClashes_53 : decode cX7_layClashes 53 = .ok (.dup, 1) := by decide +kernel
theorem dX7_layClashes_54 : decode cX7_layClashes 54 = .ok (.getfield 119, 3) := by decide +kernel
theorem dX7_layClashes_57 : decode cX7_layClashes 57 = .ok (.iconst 1, 1) := by decide +kernel
theorem dX7_layClashes_58 : decode cX7_layClashes 58 = .ok (.iadd, 1) := by decide +kernel
theorem dX7_layClashes_59 : decode cX7_layClashes 59 = .ok (.putfield 119, 3) := by decide +kernel
theorem dX7_layClashes_62 : decode cX7_layClashes 62 = .ok (.iinc 2 1, 3) := by decide +kernel
theorem dX7_layClashes_65 : decode cX7_layClashes 65 = .ok (.goto (-50), 3) := by decide +kernel
theorem dX7_layClashes_68 : decode cX7_layClashes 68 = .ok (.iinc 1 1, 3) := by decide +kernel
theorem dX7_layClashes_71 : decode cX7_layClashes 71 = .ok (.goto (-64), 3) := by decide +kernel
theorem dX7_layClashes_74 : decode cX7_layClashes 74 = .ok (.return_, 1) := by decide +kernel
set_option maxRecDepth 20000 in
theorem ggX7_clash_X7_layClashes : GoodIn wsX7_clash wsX7_layClashes := goodIn_r _ [7, 1, 8, 2, 9, 10, 11, 6, 12, 13, 14, 15, 16, 17, 18, 19, 20, 21, 22, 23, 24, 25, 26, 27, 28, 29, 30, 34, 35, 36, 37, 38, 39, 40, 41, 42, 43, 44, 45, 46, 47] (by decide +kernel) (by decide +kernel)
set_option maxRecDepth 20000 in
theorem gX7_clash_X7_layClashes : GoodIn wsX7_clash (wsV RX7 125 RX7 yX7_layClashes wsX7_layClashes) := goodIn_app (goodIn_of _ (by decide +kernel)) ggX7_clash_X7_layClashes
set_option maxRecDepth 20000 in
theorem ggX7_clash_X7_within : GoodIn wsX7_clash wsX7_within := goodIn_r _ [33] (by decide +kernel) (by decide +kernel)
set_option maxRecDepth 20000 in
theorem gX7_clash_X7_within : GoodIn wsX7_clash (va_wsS RX7 31 yX7_within wsX7_within) := goodIn_app (goodIn_of _ (by decide +kernel)) ggX7_clash_X7_within
theorem dX7_clash_0 : decode cX7_clash 0 = .ok (.aload_n 0, 1) := by decide +kernel
theorem dX7_clash_1 : decode cX7_clash 1 = .ok (.invokevirtual 125, 3) := by decide +kernel
theorem dX7_clash_4 : decode cX7_clash 4 = .ok (.iload_n 1, 1) := by decide +kernel
theorem dX7_clash_5 : decode cX7_clash 5 = .ok (.iconst 0, 1) := by decide +kernel
theorem dX7_clash_6 : decode cX7_clash 6 = .ok (.aload_n 0, 1) := by decide +kernel
theorem dX7_clash_7 : decode cX7_clash 7 = .ok (.getfield 119, 3) := by decide +kernel
theorem dX7_clash_10 : decode cX7_clash 10 = .ok (.iconst 1, 1) := by decide +kernel
theorem dX7_clash_11 : decode cX7_clash 11 = .ok (.isub, 1) := by decide +kernel
theorem dX7_clash_12 : decode cX7_clash 12 = .ok (.invokestatic 31, 3) := by decide +kernel
theorem dX7_clash_15 : decode cX7_clash 15 = .ok (.ifCond .eq 12, 3) := by decide +kernel
theorem dX7_clash_18 : decode cX7_clash 18 = .ok (.aload_n 0, 1) := by decide +kernel
theorem dX7_clash_19 : decode cX7_clash 19 = .ok (.getfield 28, 3) := by decide +kernel
theorem dX7_clash_22 : decode cX7_clash 22 = .ok (.iload_n 1, 1) := by decide +kernel
theorem dX7_clash_23 : decode cX7_clash 23 = .ok (.iaload, 1) := by decide +kernel
theorem dX7_clash_24 : decode cX7_clash 24 = .ok (.goto 6, 3) := by decide +kernel
theorem dX7_clash_27 : decode cX7_clash 27 = .ok (.sipush (-1001), 3) := by decide +kernel
theorem dX7_clash_30 : decode cX7_clash 30 = .ok (.ireturn, 1) := by decide +kernel
set_option maxRecDepth 20000 in
theorem ggX7_causeNow_X7_has : GoodIn wsX7_causeNow wsX7_has := goodIn_r _ [5] (by decide +kernel) (by decide +kernel)
set_option maxRecDepth 20000 in
theorem gX7_causeNow_X7_has : GoodIn wsX7_causeNow (va_wsS RX7 68 yX7_has wsX7_has) := goodIn_app (goodIn_of _ (by decide +kernel)) ggX7_causeNow_X7_has
set_option maxRecDepth 20000 in
theorem ggX7_causeNow_X7_ones : GoodIn wsX7_causeNow wsX7_ones := goodIn_r _ [8] (by decide +kernel) (by decide +kernel)
set_option maxRecDepth 20000 in
theorem gX7_causeNow_X7_ones : GoodIn wsX7_causeNow (va_wsS RX7 128 yX7_ones wsX7_ones) := goodIn_app (goodIn_of _ (by decide +kernel)) ggX7_causeNow_X7_ones
set_option maxRecDepth 20000 in
theorem ggX7_causeNow_X7_clashing : GoodIn wsX7_causeNow wsX7_clashing := goodIn_r _ [12, 13, 14, 15, 4, 16, 17, 18, 19, 20, 21, 2, 3, 5, 22, 23, 24, 25, 26, 27, 28, 29, 30, 31, 32, 33, 34, 35, 36, 37, 38, 39, 40, 41] (by decide +kernel) (by decide +kernel)
set_option maxRecDepth 20000 in
theorem gX7_causeNow_X7_clashing : GoodIn wsX7_causeNow (wsV RX7 122 RX7 yX7_clashing wsX7_clashing) := goodIn_app (goodIn_of _ (by decide +kernel)) ggX7_causeNow_X7_clashing
theorem dX7_causeNow_0 : decode cX7_causeNow 0 = .ok (.iconst 1, 1) := by decide +kernel
theorem dX7_causeNow_1 : decode cX7_causeNow 1 = .ok (.istore_n 3, 1) := by decide +kernel
theorem dX7_causeNow_2 : decode cX7_causeNow 2 = .ok (.iload_n 3, 1) := by decide +kernel
theorem dX7_causeNow_3 : decode cX7_causeNow 3 = .ok (.bipush 8, 2) := by decide +kernel
theorem dX7_causeNow_5 : decode cX7_causeNow 5 = .ok (.if_icmp .gt 85, 3) := by decide +kernel
theorem dX7_causeNow_8 : decode cX7_causeNow 8 = .ok (.iconst 1, 1) := by decide +kernel
theorem dX7_causeNow_9 : decode cX7_causeNow 9 = .ok (.istore 4, 2) := by decide +kernel
theorem dX7_causeNow_11 : decode cX7_causeNow 11 = .ok (.iload 4, 2) := by decide +kernel
theorem dX7_causeNow_13 : decode cX7_causeNow 13 = .ok (.sipush 256, 3) := by decide +kernel
theorem dX7_causeNow_16 : decode cX7_causeNow 16 = .ok (.if_icmp .ge 68, 3) := by decide +kernel
theorem dX7_causeNow_19 : decode cX7_causeNow 19 = .ok (.iload 4, 2) := by decide +kernel
theorem dX7_causeNow_21 : decode cX7_causeNow 21 = .ok (.aload_n 0, 1) := by decide +kernel
theorem dX7_causeNow_22 : decode cX7_causeNow 22 = .ok (.getfield 65, 3) := by decide +kernel
theorem dX7_causeNow_25 : decode cX7_causeNow 25 = .ok (.iconst (-1), 1) := by decide +kernel
theorem dX7_causeNow_26 : decode cX7_causeNow 26 = .ok (.ixor, 1) := by decide +kernel
theorem dX7_causeNow_27 : decode cX7_causeNow 27 = .ok (.iand, 1) := by decide +kernel
theorem dX7_causeNow_28 : decode cX7_causeNow 28 = .ok (.ifCond .ne 25, 3) := by decide +kernel
theorem dX7_causeNow_31 : decode cX7_causeNow 31 = .ok (.iload 4, 2) := by decide +kernel
theorem dX7_causeNow_33 : decode cX7_causeNow 33 = .ok (.iload_n 1, 1) := by decide +kernel
theorem dX7_causeNow_34 : decode cX7_causeNow 34 = .ok (.invokestatic 68, 3) := by decide +kernel
theorem dX7_causeNow_37 : decode cX7_causeNow 37 = .ok (.ifCond .eq 16, 3) := by decide +kernel
theorem dX7_causeNow_40 : decode cX7_causeNow 40 = .ok (.iload 4, 2) := by decide +kernel
theorem dX7_causeNow_42 : decode cX7_causeNow 42 = .ok (.invokestatic 128, 3) := by decide +kernel
theorem dX7_causeNow_45 : decode cX7_causeNow 45 = .ok (.iload_n 3, 1) := by decide +kernel
theorem dX7_causeNow_46 : decode cX7_causeNow 46 = .ok (.if_icmp .ne 7, 3) := by decide +kernel
theorem dX7_causeNow_49 : decode cX7_causeNow 49 = .ok (.iconst 1, 1) := by decide +kernel
theorem dX7_causeNow_50 : decode cX7_causeNow 50 = .ok (.goto 4, 3) := by decide +kernel
theorem dX7_causeNow_53 : decode cX7_causeNow 53 = .ok (.iconst 0, 1) := by decide +kernel
theorem dX7_causeNow_54 : decode cX7_causeNow 54 = .ok (.istore 5, 2) := by decide +kernel
theorem dX7_causeNow_56 : decode cX7_causeNow 56 = .ok (.iload 5, 2) := by decide +kernel
theorem dX7_causeNow_58 : decode cX7_causeNow 58 = .ok (.ifCond .eq 20, 3) := by decide +kernel
theorem dX7_causeNow_61 : decode cX7_causeNow 61 = .ok (.aload_n 0, 1) := by decide +kernel
theorem dX7_causeNow_62 : decode cX7_causeNow 62 = .ok (.iload 4, 2) := by decide +kernel
theorem dX7_causeNow_64 : decode cX7_causeNow 64 = .ok (.iload_n 2, 1) := by decide +kernel
theorem dX7_causeNow_65 : decode cX7_causeNow 65 = .ok (.invokevirtual 122, 3) := by decide +kernel
theorem dX7_causeNow_68 : decode cX7_causeNow 68 = .ok (.iload_n 1, 1) := by decide +kernel
theorem dX7_causeNow_69 : decode cX7_causeNow 69 = .ok (.invokestatic 68, 3) := by decide +kernel
theorem dX7_causeNow_72 : decode cX7_causeNow 72 = .ok (.ifCond .eq 6, 3) := by decide +kernel
theorem dX7_causeNow_75 : decode cX7_causeNow 75 = .ok (.iload 4, 2) := by decide +kernel
theorem dX7_causeNow_77 : decode cX7_causeNow 77 = .ok (.ireturn, 1) := by decide +kernel
theorem dX7_causeNow_78 : decode cX7_causeNow 78 = .ok (.iinc 4 1, 3) := by decide +kernel
theorem dX7_causeNow_81 : decode cX7_causeNow 81 = .ok (.goto (-70), 3) := by decide +kernel
theorem dX7_causeNow_84 : decode cX7_causeNow 84 = .ok (.iinc 3 1, 3) := by decide +kernel
theorem dX7_causeNow_87 : decode cX7_causeNow 87 = .ok (.goto (-85), 3) := by decide +kernel
theorem dX7_causeNow_90 : decode cX7_causeNow 90 = .ok (.iconst (-1), 1) := by decide +kernel
theorem dX7_causeNow_91 : decode cX7_causeNow 91 = .ok (.ireturn, 1) := by decide +kernel
set_option maxRecDepth 20000 in
theorem ggX7_cause_X7_isPart : GoodIn wsX7_cause wsX7_isPart := goodIn_r _ [5, 6, 7, 8, 4, 9, 10, 11, 12, 39, 40, 41, 42, 43, 44, 45, 46, 47, 48, 49, 50, 51, 52] (by decide +kernel) (by decide +kernel)
set_option maxRecDepth 20000 in
theorem gX7_cause_X7_isPart : GoodIn wsX7_cause (wsV RX7 71 RX7 yX7_isPart wsX7_isPart) := goodIn_app (goodIn_of _ (by decide +kernel)) ggX7_cause_X7_isPart
set_option maxRecDepth 20000 in
theorem ggX7_cause_X7_within : GoodIn wsX7_cause wsX7_within := goodIn_r _ [9] (by decide +kernel) (by decide +kernel)
set_option maxRecDepth 20000 in
theorem gX7_cause_X7_within : GoodIn wsX7_cause (va_wsS RX7 31 yX7_within wsX7_within) := goodIn_app (goodIn_of _ (by decide +kernel)) ggX7_cause_X7_within
set_option maxRecDepth 20000 in
theorem ggX7_cause_X7_causeNow : GoodIn wsX7_cause wsX7_causeNow := goodIn_r _ [16, 6, 10, 11, 4, 12, 17, 18, 19, 20, 21, 22, 23, 24, 25, 26, 27, 28, 29, 30, 31, 32, 33, 34, 35, 36, 37, 38, 39, 40, 41, 42, 43, 44, 45, 46, 47, 48, 49, 50, 51, 52] (by decide +kernel) (by decide +kernel)
set_option maxRecDepth 20000 in
theorem gX7_cause_X7_causeNow : GoodIn wsX7_cause (wsV RX7 131 RX7 yX7_causeNow wsX7_causeNow) := goodIn_app (goodIn_of _ (by decide +kernel)) ggX7_cause_X7_causeNow
theorem dX7_cause_0 : decode cX7_cause 0 = .ok (.aload_n 0, 1) := by decide +kernel
theorem dX7_cause_1 : decode cX7_cause 1 = .ok (.iload_n 1, 1) := by decide +kernel
theorem dX7_cause_2 : decode cX7_cause 2 = .ok (.invokevirtual 71, 3) := by decide +kernel
theorem dX7_cause_5 : decode cX7_cause 5 = .ok (.ifCond .ne 7, 3) := by decide +kernel
theorem dX7_cause_8 : decode cX7_cause 8 = .ok (.sipush (-1001), 3) := by decide +kernel
theorem dX7_cause_11 : decode cX7_cause 11 = .ok (.ireturn, 1) := by decide +kernel
theorem dX7_cause_12 : decode cX7_cause 12 = .ok (.iload_n 2, 1) := by decide +kernel
theorem dX7_cause_13 : decode cX7_cause 13 = .ok (.iconst 0, 1) := by decide +kernel
theorem dX7_cause_14 : decode cX7_cause 14 = .ok (.iconst 5, 1) := by decide +kernel
theorem dX7_cause_15 : decode cX7_cause 15 = .ok (.invokestatic 31, 3) := by decide +kernel
theorem dX7_cause_18 : decode cX7_cause 18 = .ok (.ifCond .eq 12, 3) := by decide +kernel
theorem dX7_cause_21 : decode cX7_cause 21 = .ok (.aload_n 0, 1) := by decide +kernel
theorem dX7_cause_22 : decode cX7_cause 22 = .ok (.iload_n 1, 1) := by decide +kernel
theorem dX7_cause_23 : decode cX7_cause 23 = .ok (.iload_n 2, 1) := by decide +kernel
theorem dX7_cause_24 : decode cX7_cause 24 = .ok (.invokevirtual 131, 3) := by decide +kernel
theorem dX7_cause_27 : decode cX7_cause 27 = .ok (.goto 6, 3) := by decide +kernel
theorem dX7_cause_30 : decode cX7_cause 30 = .ok (.sipush (-1002), 3) := by decide +kernel
theorem dX7_cause_33 : decode cX7_cause 33 = .ok (.ireturn, 1) := by decide +kernel
set_option maxRecDepth 20000 in
theorem ggX7_isClean_X7_clashing : GoodIn wsX7_isClean wsX7_clashing := goodIn_r _ [5, 6, 7, 8, 4, 9, 10, 11, 12, 13, 14, 15, 16, 17, 18, 19, 20, 21, 22, 23, 24, 25, 26, 27, 28, 29, 30, 31, 32, 33, 34, 35, 36, 37] (by decide +kernel) (by decide +kernel)
set_option maxRecDepth 20000 in
theorem gX7_isClean_X7_clashing : GoodIn wsX7_isClean (wsV RX7 122 RX7 yX7_clashing wsX7_clashing) := goodIn_app (goodIn_of _ (by decide +kernel)) ggX7_isClean_X7_clashing
theorem dX7_isClean_0 : decode cX7_isClean 0 = .ok (.iconst 1, 1) := by decide +kernel
theorem dX7_isClean_1 : decode cX7_isClean 1 = .ok (.istore_n 2, 1) := by decide +kernel
theorem dX7_isClean_2 : decode cX7_isClean 2 = .ok (.iconst 0, 1) := by decide +kernel
theorem dX7_isClean_3 : decode cX7_isClean 3 = .ok (.istore_n 3, 1) := by decide +kernel
theorem dX7_isClean_4 : decode cX7_isClean 4 = .ok (.iload_n 3, 1) := by decide +kernel
theorem dX7_isClean_5 : decode cX7_isClean 5 = .ok (.bipush 6, 2) := by decide +kernel
theorem dX7_isClean_7 : decode cX7_isClean 7 = .ok (.if_icmp .ge 28, 3) := by decide +kernel
theorem dX7_isClean_10 : decode cX7_isClean 10 = .ok (.iload_n 2, 1) := by decide +kernel
theorem dX7_isClean_11 : decode cX7_isClean 11 = .ok (.ifCond .eq 24, 3) := by decide +kernel
theorem dX7_isClean_14 : decode cX7_isClean 14 = .ok (.aload_n 0, 1) := by decide +kernel
theorem dX7_isClean_15 : decode cX7_isClean 15 = .ok (.iload_n 1, 1) := by decide +kernel
theorem dX7_isClean_16 : decode cX7_isClean 16 = .ok (.iload_n 3, 1) := by decide +kernel
theorem dX7_isClean_17 : decode cX7_isClean 17 = .ok (.invokevirtual 122, 3) := by decide +kernel
theorem dX7_isClean_20 : decode cX7_isClean 20 = .ok (.ifCond .ne 7, 3) := by decide +kernel
theorem dX7_isClean_23 : decode cX7_isClean 23 = .ok (.iconst 1, 1) := by decide +kernel
theorem dX7_isClean_24 : decode cX7_isClean 24 = .ok (.goto 4, 3) := by decide +kernel
theorem dX7_isClean_27 : decode cX7_isClean 27 = .ok (.iconst 0, 1) := by decide +kernel
theorem dX7_isClean_28 : decode cX7_isClean 28 = .ok (.istore_n 2, 1) := by decide +kernel
theorem dX7_isClean_29 : decode cX7_isClean 29 = .ok (.iinc 3 1, 3) := by decide +kernel
theorem dX7_isClean_32 : decode cX7_isClean 32 = .ok (.goto (-28), 3) := by decide +kernel
theorem dX7_isClean_35 : decode cX7_isClean 35 = .ok (.iload_n 2, 1) := by decide +kernel
theorem dX7_isClean_36 : decode cX7_isClean 36 = .ok (.ireturn, 1) := by decide +kernel
set_option maxRecDepth 20000 in
theorem ggX7_cureNow_X7_ones : GoodIn wsX7_cureNow wsX7_ones := goodIn_r _ [5] (by decide +kernel) (by decide +kernel)
set_option maxRecDepth 20000 in
theorem gX7_cureNow_X7_ones : GoodIn wsX7_cureNow (va_wsS RX7 128 yX7_ones wsX7_ones) := goodIn_app (goodIn_of _ (by decide +kernel)) ggX7_cureNow_X7_ones
set_option maxRecDepth 20000 in
theorem ggX7_cureNow_X7_isClean : GoodIn wsX7_cureNow wsX7_isClean := goodIn_r _ [9, 10, 11, 12, 4, 13, 14, 15, 16, 17, 18, 19, 20, 21, 22, 23, 24, 25, 26, 27, 28, 29, 30, 31, 32, 33, 34, 35, 36, 37, 38, 39, 40, 41, 42, 43, 44, 45] (by decide +kernel) (by decide +kernel)
set_option maxRecDepth 20000 in
theorem gX7_cureNow_X7_isClean : GoodIn wsX7_cureNow (wsV RX7 134 RX7 yX7_isClean wsX7_isClean) := goodIn_app (goodIn_of _ (by decide +kernel)) ggX7_cureNow_X7_isClean
theorem dX7_cureNow_0 : decode cX7_cureNow 0 = .ok (.iconst 0, 1) := by decide +kernel
theorem dX7_cureNow_1 : decode cX7_cureNow 1 = .ok (.istore_n 1, 1) := by decide +kernel
theorem dX7_cureNow_2 : decode cX7_cureNow 2 = .ok (.iload_n 1, 1) := by decide +kernel
theorem dX7_cureNow_3 : decode cX7_cureNow 3 = .ok (.bipush 8, 2) := by decide +kernel
theorem dX7_cureNow_5 : decode cX7_cureNow 5 = .ok (.if_icmp .ge 60, 3) := by decide +kernel
theorem dX7_cureNow_8 : decode cX7_cureNow 8 = .ok (.iconst 0, 1) := by decide +kernel
theorem dX7_cureNow_9 : decode cX7_cureNow 9 = .ok (.istore_n 2, 1) := by decide +kernel
theorem dX7_cureNow_10 : decode cX7_cureNow 10 = .ok (.iload_n 2, 1) := by decide +kernel
theorem dX7_cureNow_11 : decode cX7_cureNow 11 = .ok (.sipush 256, 3) := by decide +kernel
theorem dX7_cureNow_14 : decode cX7_cureNow 14 = .ok (.if_icmp .ge 45, 3) := by decide +kernel
theorem dX7_cureNow_17 : decode cX7_cureNow 17 = .ok (.iload_n 2, 1) := by decide +kernel
theorem dX7_cureNow_18 : decode cX7_cureNow 18 = .ok (.aload_n 0, 1) := by decide +kernel
theorem dX7_cureNow_19 : decode cX7_cureNow 19 = .ok (.getfield 65, 3) := by decide +kernel
theorem dX7_cureNow_22 : decode cX7_cureNow 22 = .ok (.iconst (-1), 1) := by decide +kernel
theorem dX7_cureNow_23 : decode cX7_cureNow 23 = .ok (.ixor, 1) := by decide +kernel
theorem dX7_cureNow_24 : decode cX7_cureNow 24 = .ok (.iand, 1) := by decide +kernel
theorem dX7_cureNow_25 : decode cX7_cureNow 25 = .ok (.ifCond .ne 28, 3) := by decide +kernel
theorem dX7_cureNow_28 : decode cX7_cureNow 28 = .ok (.iload_n 2, 1) := by decide +kernel
theorem dX7_cureNow_29 : decode cX7_cureNow 29 = .ok (.invokestatic 128, 3) := by decide +kernel
theorem dX7_cureNow_32 : decode cX7_cureNow 32 = .ok (.iload_n 1, 1) := by decide +kernel
theorem dX7_cureNow_33 : decode cX7_cureNow 33 = .ok (.if_icmp .ne 20, 3) := by decide +kernel
theorem dX7_cureNow_36 : decode cX7_cureNow 36 = .ok (.aload_n 0, 1) := by decide +kernel
theorem dX7_cureNow_37 : decode cX7_cureNow 37 = .ok (.aload_n 0, 1) := by decide +kernel
theorem dX7_cureNow_38 : decode cX7_cureNow 38 = .ok (.getfield 65, 3) := by decide +kernel
theorem dX7_cureNow_41 : decode cX7_cureNow 41 = .ok (.iload_n 2, 1) := by decide +kernel
theorem dX7_cureNow_42 : decode cX7_cureNow 42 = .ok (.iconst (-1), 1) := by decide +kernel
theorem dX7_cureNow_43 : decode cX7_cureNow 43 = .ok (.ixor, 1) := by decide +kernel
theorem dX7_cureNow_44 : decode cX7_cureNow 44 = .ok (.iand, 1) := by decide +kernel
theorem dX7_cureNow_45 : decode cX7_cureNow 45 = .ok (.invokevirtual 134, 3) := by decide +kernel
theorem dX7_cureNow_48 : decode cX7_cureNow 48 = .ok (.ifCond .eq 5, 3) := by decide +kernel
theorem dX7_cureNow_51 : decode cX7_cureNow 51 = .ok (.iload_n 2, 1) := by decide +kernel
theorem dX7_cureNow_52 : decode cX7_cureNow 52 = .ok (.ireturn, 1) := by decide +kernel
theorem dX7_cureNow_53 : decode cX7_cureNow 53 = .ok (.iinc 2 1, 3) := by decide +kernel
theorem dX7_cureNow_56 : decode cX7_cureNow 56 = .ok (.goto (-46), 3) := by decide +kernel
theorem dX7_cureNow_59 : decode cX7_cureNow 59 = .ok (.iinc 1 1, 3) := by decide +kernel
theorem dX7_cureNow_62 : decode cX7_cureNow 62 = .ok (.goto (-60), 3) := by decide +kernel
theorem dX7_cureNow_65 : decode cX7_cureNow 65 = .ok (.aload_n 0, 1) := by decide +kernel
theorem dX7_cureNow_66 : decode cX7_cureNow 66 = .ok (.getfield 65, 3) := by decide +kernel
theorem dX7_cureNow_69 : decode cX7_cureNow 69 = .ok (.ireturn, 1) := by decide +kernel
set_option maxRecDepth 20000 in
theorem ggX7_cure_X7_cureNow : GoodIn wsX7_cure wsX7_cureNow := goodIn_r _ [5, 6, 7, 8, 4, 9, 10, 11, 12, 13, 14, 15, 16, 17, 18, 19, 20, 21, 22, 23, 24, 25, 26, 27, 28, 29, 30, 31, 32, 33, 34, 35, 36, 37, 38, 39, 40, 41, 42, 43, 44, 45, 46, 47, 48, 49] (by decide +kernel) (by decide +kernel)
set_option maxRecDepth 20000 in
theorem gX7_cure_X7_cureNow : GoodIn wsX7_cure (wsV RX7 137 RX7 yX7_cureNow wsX7_cureNow) := goodIn_app (goodIn_of _ (by decide +kernel)) ggX7_cure_X7_cureNow
theorem dX7_cure_0 : decode cX7_cure 0 = .ok (.aload_n 0, 1) := by decide +kernel
theorem dX7_cure_1 : decode cX7_cure 1 = .ok (.invokevirtual 137, 3) := by decide +kernel
theorem dX7_cure_4 : decode cX7_cure 4 = .ok (.ireturn, 1) := by decide +kernel
set_option maxRecDepth 20000 in
theorem ggX7_joins_X7_has : GoodIn wsX7_joins wsX7_has := goodIn_r _ [5] (by decide +kernel) (by decide +kernel)
set_option maxRecDepth 20000 in
theorem gX7_joins_X7_has : GoodIn wsX7_joins (va_wsS RX7 68 yX7_has wsX7_has) := goodIn_app (goodIn_of _ (by decide +kernel)) ggX7_joins_X7_has
set_option maxRecDepth 20000 in
theorem ggX7_joins_X7_usesOf : GoodIn wsX7_joins wsX7_usesOf := goodIn_r _ [9, 1, 10, 2, 3, 4, 5, 11, 12, 13, 14, 15, 16, 17, 18, 19, 20, 21, 22, 23, 24] (by decide +kernel) (by decide +kernel)
set_option maxRecDepth 20000 in
theorem gX7_joins_X7_usesOf : GoodIn wsX7_joins (wsV RX7 74 RX7 yX7_usesOf wsX7_usesOf) := goodIn_app (goodIn_of _ (by decide +kernel)) ggX7_joins_X7_usesOf
theorem dX7_joins_0 : decode cX7_joins 0 = .ok (.iconst 0, 1) := by decide +kernel
theorem dX7_joins_1 : decode cX7_joins 1 = .ok (.istore_n 1, 1) := by decide +kernel
theorem dX7_joins_2 : decode cX7_joins 2 = .ok (.iconst 0, 1) := by decide +kernel
theorem dX7_joins_3 : decode cX7_joins 3 = .ok (.istore_n 2, 1) := by decide +kernel
theorem dX7_joins_4 : decode cX7_joins 4 = .ok (.iload_n 2, 1) := by decide +kernel
theorem dX7_joins_5 : decode cX7_joins 5 = .ok (.bipush 8, 2) := by decide +kernel
theorem dX7_joins_7 : decode cX7_joins 7 = .ok (.if_icmp .ge 32, 3) := by decide +kernel
theorem dX7_joins_10 : decode cX7_joins 10 = .ok (.iload_n 1, 1) := by decide +kernel
theorem dX7_joins_11 : decode cX7_joins 11 = .ok (.aload_n 0, 1) := by decide +kernel
theorem dX7_joins_12 : decode cX7_joins 12 = .ok (.getfield 65, 3) := by decide +kernel
theorem dX7_joins_15 : decode cX7_joins 15 = .ok (.iload_n 2, 1) := by decide +kernel
theorem dX7_joins_16 : decode cX7_joins 16 = .ok (.invokestatic 68, 3) := by decide +kernel
theorem dX7_joins_19 : decode cX7_joins 19 = .ok (.ifCond .eq 11, 3) := by decide +kernel
theorem dX7_joins_22 : decode cX7_joins 22 = .ok (.aload_n 0, 1) := by decide +kernel
theorem dX7_joins_23 : decode cX7_joins 23 = .ok (.iload_n 2, 1) := by decide +kernel
theorem dX7_joins_24 : decode cX7_joins 24 = .ok (.invokevirtual 74, 3) := by decide +kernel
theorem dX7_joins_27 : decode cX7_joins 27 = .ok (.goto 4, 3) := by decide +kernel
theorem dX7_joins_30 : decode cX7_joins 30 = .ok (.iconst 0, 1) := by decide +kernel
theorem dX7_joins_31 : decode cX7_joins 31 = .ok (.iadd, 1) := by decide +kernel
theorem dX7_joins_32 : decode cX7_joins 32 = .ok (.istore_n 1, 1) := by decide +kernel
theorem dX7_joins_33 : decode cX7_joins 33 = .ok (.iinc 2 1, 3) := by decide +kernel
theorem dX7_joins_36 : decode cX7_joins 36 = .ok (.goto (-32), 3) := by decide +kernel
theorem dX7_joins_39 : decode cX7_joins 39 = .ok (.iload_n 1, 1) := by decide +kernel
theorem dX7_joins_40 : decode cX7_joins 40 = .ok (.ireturn, 1) := by decide +kernel
set_option maxRecDepth 20000 in
theorem ggX7_clashMany_X7_layClashes : GoodIn wsX7_clashMany wsX7_layClashes := goodIn_r _ [7, 1, 8, 2, 9, 10, 11, 6, 12, 13, 14, 15, 16, 17, 18, 19, 20, 21, 22, 23, 24, 25, 26, 27, 28, 29, 30, 34, 35, 36, 37, 38, 39, 40, 41, 42, 43, 44, 45, 46, 47] (by decide +kernel) (by decide +kernel)
set_option maxRecDepth 20000 in
theorem gX7_clashMany_X7_layClashes : GoodIn wsX7_clashMany (wsV RX7 125 RX7 yX7_layClashes wsX7_layClashes) := goodIn_app (goodIn_of _ (by decide +kernel)) ggX7_clashMany_X7_layClashes
set_option maxRecDepth 20000 in
theorem ggX7_clashMany_X7_ones : GoodIn wsX7_clashMany wsX7_ones := goodIn_r _ [33] (by decide +kernel) (by decide +kernel)
set_option maxRecDepth 20000 in
theorem gX7_clashMany_X7_ones : GoodIn wsX7_clashMany (va_wsS RX7 128 yX7_ones wsX7_ones) := goodIn_app (goodIn_of _ (by decide +kernel)) ggX7_clashMany_X7_ones
theorem dX7_clashMany_0 : decode cX7_clashMany 0 = .ok (.aload_n 0, 1) := by decide +kernel
theorem dX7_clashMany_1 : decode cX7_clashMany 1 = .ok (.invokevirtual 125, 3) := by decide +kernel
theorem dX7_clashMany_4 : decode cX7_clashMany 4 = .ok (.iconst 0, 1) := by decide +kernel
theorem dX7_clashMany_5 : decode cX7_clashMany 5 = .ok (.istore_n 2, 1) := by decide +kernel
theorem dX7_clashMany_6 : decode cX7_clashMany 6 = .ok (.iconst 0, 1) := by decide +kernel
theorem dX7_clashMany_7 : decode cX7_clashMany 7 = .ok (.istore_n 3, 1) := by decide +kernel
theorem dX7_clashMany_8 : decode cX7_clashMany 8 = .ok (.iload_n 3, 1) := by decide +kernel
theorem dX7_clashMany_9 : decode cX7_clashMany 9 = .ok (.aload_n 0, 1) := by decide +kernel
theorem dX7_clashMany_10 : decode cX7_clashMany 10 = .ok (.getfield 119, 3) := by decide +kernel
theorem dX7_clashMany_13 : decode cX7_clashMany 13 = .ok (.if_icmp .ge 23, 3) := by decide +kernel
theorem dX7_clashMany_16 : decode cX7_clashMany 16 = .ok (.iload_n 2, 1) := by decide +kernel
theorem dX7_clashMany_17 : decode cX7_clashMany 17 = .ok (.iconst 1, 1) := by decide +kernel
theorem dX7_clashMany_18 : decode cX7_clashMany 18 = .ok (.aload_n 0, 1) := by decide +kernel
theorem dX7_clashMany_19 : decode cX7_clashMany 19 = .ok (.getfield 28, 3) := by decide +kernel
theorem dX7_clashMany_22 : decode cX7_clashMany 22 = .ok (.iload_n 3, 1) := by decide +kernel
theorem dX7_clashMany_23 : decode cX7_clashMany 23 = .ok (.iaload, 1) := by decide +kernel
theorem dX7_clashMany_24 : decode cX7_clashMany 24 = .ok (.bipush 6, 2) := by decide +kernel
theorem dX7_clashMany_26 : decode cX7_clashMany 26 = .ok (.idiv, 1) := by decide +kernel
theorem dX7_clashMany_27 : decode cX7_clashMany 27 = .ok (.ishl, 1) := by decide +kernel
theorem dX7_clashMany_28 : decode cX7_clashMany 28 = .ok (.ior, 1) := by decide +kernel
theorem dX7_clashMany_29 : decode cX7_clashMany 29 = .ok (.istore_n 2, 1) := by decide +kernel
theorem dX7_clashMany_30 : decode cX7_clashMany 30 = .ok (.iinc 3 1, 3) := by decide +kernel
theorem dX7_clashMany_33 : decode cX7_clashMany 33 = .ok (.goto (-25), 3) := by decide +kernel
theorem dX7_clashMany_36 : decode cX7_clashMany 36 = .ok (.iload_n 1, 1) := by decide +kernel
theorem dX7_clashMany_37 : decode cX7_clashMany 37 = .ok (.ifCond .eq 10, 3) := by decide +kernel
theorem dX7_clashMany_40 : decode cX7_clashMany 40 = .ok (.iload_n 2, 1) := by decide +kernel
theorem dX7_clashMany_41 : decode cX7_clashMany 41 = .ok (.invokestatic 128, 3) := by decide +kernel
theorem dX7_clashMany_44 : decode cX7_clashMany 44 = .ok (.goto 7, 3) := by decide +kernel
theorem dX7_clashMany_47 : decode cX7_clashMany 47 = .ok (.aload_n 0, 1) := by decide +kernel
theorem dX7_clashMany_48 : decode cX7_clashMany 48 = .ok (.getfield 119, 3) := by decide +kernel
theorem dX7_clashMany_51 : decode cX7_clashMany 51 = .ok (.ireturn, 1) := by decide +kernel
set_option maxRecDepth 20000 in
theorem ggX7_howMany_X7_ones : GoodIn wsX7_howMany wsX7_ones := goodIn_r _ [8] (by decide +kernel) (by decide +kernel)
set_option maxRecDepth 20000 in
theorem gX7_howMany_X7_ones : GoodIn wsX7_howMany (va_wsS RX7 128 yX7_ones wsX7_ones) := goodIn_app (goodIn_of _ (by decide +kernel)) ggX7_howMany_X7_ones
set_option maxRecDepth 20000 in
theorem ggX7_howMany_X7_joins : GoodIn wsX7_howMany wsX7_joins := goodIn_r _ [12, 3, 13, 14, 7, 15, 16, 17, 18, 19, 20, 49, 50, 51, 52, 53, 54, 55, 56, 57, 58, 59, 60, 61, 62] (by decide +kernel) (by decide +kernel)
set_option maxRecDepth 20000 in
theorem gX7_howMany_X7_joins : GoodIn wsX7_howMany (wsV RX7 140 RX7 yX7_joins wsX7_joins) := goodIn_app (goodIn_of _ (by decide +kernel)) ggX7_howMany_X7_joins
set_option maxRecDepth 20000 in
theorem ggX7_howMany_X7_clashMany : GoodIn wsX7_howMany wsX7_clashMany := goodIn_r _ [24, 25, 26, 27, 28, 29, 7, 30, 3, 31, 32, 33, 34, 35, 36, 37, 38, 39, 40, 41, 42, 20, 13, 14, 15, 43, 44, 45, 46, 47, 48, 5, 6, 8, 49, 50, 51, 52, 53, 54, 55, 56, 57, 58, 59, 60, 61, 62] (by decide +kernel) (by decide +kernel)
set_option maxRecDepth 20000 in
theorem gX7_howMany_X7_clashMany : GoodIn wsX7_howMany (wsV RX7 143 RX7 yX7_clashMany wsX7_clashMany) := goodIn_app (goodIn_of _ (by decide +kernel)) ggX7_howMany_X7_clashMany
theorem dX7_howMany_0 : decode cX7_howMany 0 = .ok (.iload_n 1, 1) := by decide +kernel
theorem dX7_howMany_1 : decode cX7_howMany 1 = .ok (.tableswitch 92 0 7 #[47, 52, 57, 65, 70, 75, 81, 87], 47) := by decide +kernel
theorem dX7_howMany_48 : decode cX7_howMany 48 = .ok (.aload_n 0, 1) := by decide +kernel
theorem dX7_howMany_49 : decode cX7_howMany 49 = .ok (.getfield 35, 3) := by decide +kernel
theorem dX7_howMany_52 : decode cX7_howMany 52 = .ok (.ireturn, 1) := by decide +kernel
theorem dX7_howMany_53 : decode cX7_howMany 53 = .ok (.aload_n 0, 1) := by decide +kernel
theorem dX7_howMany_54 : decode cX7_howMany 54 = .ok (.getfield 47, 3) := by decide +kernel
theorem dX7_howMany_57 : decode cX7_howMany 57 = .ok (.ireturn, 1) := by decide +kernel
theorem dX7_howMany_58 : decode cX7_howMany 58 = .ok (.aload_n 0, 1) := by decide +kernel
theorem dX7_howMany_59 : decode cX7_howMany 59 = .ok (.getfield 65, 3) := by decide +kernel
theorem dX7_howMany_62 : decode cX7_howMany 62 = .ok (.invokestatic 128, 3) := by decide +kernel
theorem dX7_howMany_65 : decode cX7_howMany 65 = .ok (.ireturn, 1) := by decide +kernel
theorem dX7_howMany_66 : decode cX7_howMany 66 = .ok (.aload_n 0, 1) := by decide +kernel
theorem dX7_howMany_67 : decode cX7_howMany 67 = .ok (.getfield 65, 3) := by decide +kernel
theorem dX7_howMany_70 : decode cX7_howMany 70 = .ok (.ireturn, 1) := by decide +kernel
theorem dX7_howMany_71 : decode cX7_howMany 71 = .ok (.aload_n 0, 1) := by decide +kernel
theorem dX7_howMany_72 : decode cX7_howMany 72 = .ok (.invokevirtual 140, 3) := by decide +kernel
theorem dX7_howMany_75 : decode cX7_howMany 75 = .ok (.ireturn, 1) := by decide +kernel
theorem dX7_howMany_76 : decode cX7_howMany 76 = .ok (.aload_n 0, 1) := by decide +kernel
theorem dX7_howMany_77 : decode cX7_howMany 77 = .ok (.iconst 0, 1) := by decide +kernel
theorem dX7_howMany_78 : decode cX7_howMany 78 = .ok (.invokevirtual 143, 3) := by decide +kernel
theorem dX7_howMany_81 : decode cX7_howMany 81 = .ok (.ireturn, 1) := by decide +kernel
theorem dX7_howMany_82 : decode cX7_howMany 82 = .ok (.aload_n 0, 1) := by decide +kernel
theorem dX7_howMany_83 : decode cX7_howMany 83 = .ok (.iconst 1, 1) := by decide +kernel
theorem dX7_howMany_84 : decode cX7_howMany 84 = .ok (.invokevirtual 143, 3) := by decide +kernel
theorem dX7_howMany_87 : decode cX7_howMany 87 = .ok (.ireturn, 1) := by decide +kernel
theorem dX7_howMany_88 : decode cX7_howMany 88 = .ok (.aload_n 0, 1) := by decide +kernel
theorem dX7_howMany_89 : decode cX7_howMany 89 = .ok (.getfield 80, 3) := by decide +kernel
theorem dX7_howMany_92 : decode cX7_howMany 92 = .ok (.ireturn, 1) := by decide +kernel
theorem dX7_howMany_93 : decode cX7_howMany 93 = .ok (.sipush (-1002), 3) := by decide +kernel
theorem dX7_howMany_96 : decode cX7_howMany 96 = .ok (.ireturn, 1) := by decide +kernel
set_option maxRecDepth 20000 in
theorem ggX7_count_X7_howMany : GoodIn wsX7_count wsX7_howMany := goodIn_r _ [5, 6, 7, 8, 9, 10, 11, 4, 12, 13, 14, 15, 16, 17, 18, 19, 20, 21, 22, 23, 24, 25, 26, 27, 28, 29, 30, 31, 32, 33, 34, 35, 36, 37, 38, 39, 40, 41, 42, 43, 44, 45, 46, 47, 48, 49, 50, 51, 52, 53, 54, 55, 56, 57, 58, 59, 60, 61, 62, 63, 64, 65, 66] (by decide +kernel) (by decide +kernel)
set_option maxRecDepth 20000 in
theorem gX7_count_X7_howMany : GoodIn wsX7_count (wsV RX7 147 RX7 yX7_howMany wsX7_howMany) := goodIn_app (goodIn_of _ (by decide +kernel)) ggX7_count_X7_howMany
theorem dX7_count_0 : decode cX7_count 0 = .ok (.aload_n 0, 1) := by decide +kernel
theorem dX7_count_1 : decode cX7_count 1 = .ok (.iload_n 1, 1) := by decide +kernel
theorem dX7_count_2 : decode cX7_count 2 = .ok (.invokevirtual 147, 3) := by decide +kernel
theorem dX7_count_5 : decode cX7_count 5 = .ok (.ireturn, 1) := by decide +kernel
theorem dX7_mix_0 : decode cX7_mix 0 = .ok (.aload_n 0, 1) := by decide +kernel
theorem dX7_mix_1 : decode cX7_mix 1 = .ok (.ldc2_w 150, 3) := by decide +kernel
theorem dX7_mix_4 : decode cX7_mix 4 = .ok (.aload_n 0, 1) := by decide +kernel
theorem dX7_mix_5 : decode cX7_mix 5 = .ok (.getfield 152, 3) := by decide +kernel
theorem dX7_mix_8 : decode cX7_mix 8 = .ok (.lmul, 1) := by decide +kernel
theorem dX7_mix_9 : decode cX7_mix 9 = .ok (.lload_n 1, 1) := by decide +kernel
theorem dX7_mix_10 : decode cX7_mix 10 = .ok (.ladd, 1) := by decide +kernel
theorem dX7_mix_11 : decode cX7_mix 11 = .ok (.putfield 152, 3) := by decide +kernel
theorem dX7_mix_14 : decode cX7_mix 14 = .ok (.return_, 1) := by decide +kernel
set_option maxRecDepth 20000 in
theorem ggX7_mixPart_X7_mix : GoodIn wsX7_mixPart wsX7_mix := goodIn_r _ [7, 8, 9, 55, 56, 57, 58, 59, 60, 61, 62, 63, 64, 65, 66, 67, 68] (by decide +kernel) (by decide +kernel)
set_option maxRecDepth 20000 in
theorem gX7_mixPart_X7_mix : GoodIn wsX7_mixPart (wsV RX7 156 RX7 yX7_mix wsX7_mix) := goodIn_app (goodIn_of _ (by decide +kernel)) ggX7_mixPart_X7_mix
set_option maxRecDepth 20000 in
theorem ggX7_mixPart_X7_partNow : GoodIn wsX7_mixPart wsX7_partNow := goodIn_r _ [13, 14, 15, 16, 17, 6, 18, 19, 20, 21, 22, 2, 1, 23, 24, 25, 26, 27, 28, 29, 30, 31, 32, 33, 34, 35, 36, 37, 38, 39, 40, 41, 42, 43, 44, 45, 46, 47, 48, 49, 50, 55, 56, 57, 58, 59, 60, 61, 62, 63, 64, 65, 66, 67, 68] (by decide +kernel) (by decide +kernel)
set_option maxRecDepth 20000 in
theorem gX7_mixPart_X7_partNow : GoodIn wsX7_mixPart (wsV RX7 116 RX7 yX7_partNow wsX7_partNow) := goodIn_app (goodIn_of _ (by decide +kernel)) ggX7_mixPart_X7_partNow
set_option maxRecDepth 20000 in
theorem ggX7_mixPart_X7_heldNow : GoodIn wsX7_mixPart wsX7_heldNow := goodIn_r _ [54, 1, 42, 43, 44, 6, 45, 2, 23, 24, 25, 46, 47, 48, 49, 50, 14, 55, 56, 57, 58, 59, 60, 61, 62, 63, 64, 65, 66, 67, 68] (by decide +kernel) (by decide +kernel)
set_option maxRecDepth 20000 in
theorem gX7_mixPart_X7_heldNow : GoodIn wsX7_mixPart (wsV RX7 94 RX7 yX7_heldNow wsX7_heldNow) := goodIn_app (goodIn_of _ (by decide +kernel)) ggX7_mixPart_X7_heldNow
set_option maxRecDepth 20000 in
theorem ggX7_mixPart_X7_has : GoodIn wsX7_mixPart wsX7_has := goodIn_r _ [25] (by decide +kernel) (by decide +kernel)
set_option maxRecDepth 20000 in
theorem gX7_mixPart_X7_has : GoodIn wsX7_mixPart (va_wsS RX7 68 yX7_has wsX7_has) := goodIn_app (goodIn_of _ (by decide +kernel)) ggX7_mixPart_X7_has
theorem dX7_mixPart_0 : decode cX7_mixPart 0 = .ok (.aload_n 0, 1) := by decide +kernel
theorem dX7_mixPart_1 : decode cX7_mixPart 1 = .ok (.iload_n 1, 1) := by decide +kernel
theorem dX7_mixPart_2 : decode cX7_mixPart 2 = .ok (.i2l, 1) := by decide +kernel
theorem dX7_mixPart_3 : decode cX7_mixPart 3 = .ok (.invokevirtual 156, 3) := by decide +kernel
theorem dX7_mixPart_6 : decode cX7_mixPart 6 = .ok (.iconst 0, 1) := by decide +kernel
theorem dX7_mixPart_7 : decode cX7_mixPart 7 = .ok (.istore_n 2, 1) := by decide +kernel
theorem dX7_mixPart_8 : decode cX7_mixPart 8 = .ok (.iload_n 2, 1) := by decide +kernel
theorem dX7_mixPart_9 : decode cX7_mixPart 9 = .ok (.bipush 7, 2) := by decide +kernel
theorem dX7_mixPart_11 : decode cX7_mixPart 11 = .ok (.if_icmp .ge 20, 3) := by decide +kernel
theorem dX7_mixPart_14 : decode cX7_mixPart 14 = .ok (.aload_n 0, 1) := by decide +kernel
theorem dX7_mixPart_15 : decode cX7_mixPart 15 = .ok (.aload_n 0, 1) := by decide +kernel
theorem dX7_mixPart_16 : decode cX7_mixPart 16 = .ok (.iload_n 1, 1) := by decide +kernel
theorem dX7_mixPart_17 : decode cX7_mixPart 17 = .ok (.iload_n 2, 1) := by decide +kernel
theorem dX7_mixPart_18 : decode cX7_mixPart 18 = .ok (.invokevirtual 116, 3) := by decide +kernel
theorem dX7_mixPart_21 : decode cX7_mixPart 21 = .ok (.i2l, 1) := by decide +kernel
theorem dX7_mixPart_22 : decode cX7_mixPart 22 = .ok (.invokevirtual 156, 3) := by decide +kernel
theorem dX7_mixPart_25 : decode cX7_mixPart 25 = .ok (.iinc 2 1, 3) := by decide +kernel
theorem dX7_mixPart_28 : decode cX7_mixPart 28 = .ok (.goto (-20), 3) := by decide +kernel
theorem dX7_mixPart_31 : decode cX7_mixPart 31 = .ok (.iconst 0, 1) := by decide +kernel
theorem dX7_mixPart_32 : decode cX7_mixPart 32 = .ok (.istore_n 2, 1) := by decide +kernel
theorem dX7_mixPart_33 : decode cX7_mixPart 33 = .ok (.iload_n 2, 1) := by decide +kernel
theorem dX7_mixPart_34 : decode cX7_mixPart 34 = .ok (.bipush 12, 2) := by decide +kernel
theorem dX7_mixPart_36 : decode cX7_mixPart 36 = .ok (.if_icmp .ge 20, 3) := by decide +kernel
theorem dX7_mixPart_39 : decode cX7_mixPart 39 = .ok (.aload_n 0, 1) := by decide +kernel
theorem dX7_mixPart_40 : decode cX7_mixPart 40 = .ok (.aload_n 0, 1) := by decide +kernel
theorem dX7_mixPart_41 : decode cX7_mixPart 41 = .ok (.iload_n 1, 1) := by decide +kernel
theorem dX7_mixPart_42 : decode cX7_mixPart 42 = .ok (.iload_n 2, 1) := by decide +kernel
theorem dX7_mixPart_43 : decode cX7_mixPart 43 = .ok (.invokevirtual 94, 3) := by decide +kernel
theorem dX7_mixPart_46 : decode cX7_mixPart 46 = .ok (.i2l, 1) := by decide +kernel
theorem dX7_mixPart_47 : decode cX7_mixPart 47 = .ok (.invokevirtual 156, 3) := by decide +kernel
theorem dX7_mixPart_50 : decode cX7_mixPart 50 = .ok (.iinc 2 1, 3) := by decide +kernel
theorem dX7_mixPart_53 : decode cX7_mixPart 53 = .ok (.goto (-20), 3) := by decide +kernel
theorem dX7_mixPart_56 : decode cX7_mixPart 56 = .ok (.iconst 0, 1) := by decide +kernel
theorem dX7_mixPart_57 : decode cX7_mixPart 57 = .ok (.istore_n 2, 1) := by decide +kernel
theorem dX7_mixPart_58 : decode cX7_mixPart 58 = .ok (.iload_n 2, 1) := by decide +kernel
theorem dX7_mixPart_59 : decode cX7_mixPart 59 = .ok (.bipush 8, 2) := by decide +kernel
theorem dX7_mixPart_61 : decode cX7_mixPart 61 = .ok (.if_icmp .ge 36, 3) := by decide +kernel
theorem dX7_mixPart_64 : decode cX7_mixPart 64 = .ok (.aload_n 0, 1) := by decide +kernel
theorem dX7_mixPart_65 : decode cX7_mixPart 65 = .ok (.getfield 65, 3) := by decide +kernel
theorem dX7_mixPart_68 : decode cX7_mixPart 68 = .ok (.iload_n 2, 1) := by decide +kernel
theorem dX7_mixPart_69 : decode cX7_mixPart 69 = .ok (.invokestatic 68, 3) := by decide +kernel
theorem dX7_mixPart_72 : decode cX7_mixPart 72 = .ok (.ifCond .eq 19, 3) := by decide +kernel
theorem dX7_mixPart_75 : decode cX7_mixPart 75 = .ok (.aload_n 0, 1) := by decide +kernel
theorem dX7_mixPart_76 : decode cX7_mixPart 76 = .ok (.aload_n 0, 1) := by decide +kernel
theorem dX7_mixPart_77 : decode cX7_mixPart 77 = .ok (.getfield 19, 3) := by decide +kernel
theorem dX7_mixPart_80 : decode cX7_mixPart 80 = .ok (.bipush 8, 2) := by decide +kernel
theorem dX7_mixPart_82 : decode cX7_mixPart 82 = .ok (.iload_n 1, 1) := by decide +kernel
theorem dX7_mixPart_83 : decode cX7_mixPart 83 = .ok (.imul, 1) := by decide +kernel
theorem dX7_mixPart_84 : decode cX7_mixPart 84 = .ok (.iload_n 2, 1) := by decide +kernel
theorem dX7_mixPart_85 : decode cX7_mixPart 85 = .ok (.iadd, 1) := by decide +kernel
theorem dX7_mixPart_86 : decode cX7_mixPart 86 = .ok (.iaload, 1) := by decide +kernel
theorem dX7_mixPart_87 : decode cX7_mixPart 87 = .ok (.i2l, 1) := by decide +kernel
theorem dX7_mixPart_88 : decode cX7_mixPart 88 = .ok (.invokevirtual 156, 3) := by decide +kernel
theorem dX7_mixPart_91 : decode cX7_mixPart 91 = .ok (.iinc 2 1, 3) := by decide +kernel
theorem dX7_mixPart_94 : decode cX7_mixPart 94 = .ok (.goto (-36), 3) := by decide +kernel
theorem dX7_mixPart_97 : decode cX7_mixPart 97 = .ok (.return_, 1) := by decide +kernel
set_option maxRecDepth 20000 in
theorem ggX7_digest_X7_mix : GoodIn wsX7_digest wsX7_mix := goodIn_r _ [14, 15, 2, 101, 102, 103, 104, 105, 106, 107, 108, 109, 110, 111, 112, 113, 114] (by decide +kernel) (by decide +kernel)
set_option maxRecDepth 20000 in
theorem gX7_digest_X7_mix : GoodIn wsX7_digest (wsV RX7 156 RX7 yX7_mix wsX7_mix) := goodIn_app (goodIn_of _ (by decide +kernel)) ggX7_digest_X7_mix
set_option maxRecDepth 20000 in
theorem ggX7_digest_X7_has : GoodIn wsX7_digest wsX7_has := goodIn_r _ [18] (by decide +kernel) (by decide +kernel)
set_option maxRecDepth 20000 in
theorem gX7_digest_X7_has : GoodIn wsX7_digest (va_wsS RX7 68 yX7_has wsX7_has) := goodIn_app (goodIn_of _ (by decide +kernel)) ggX7_digest_X7_has
set_option maxRecDepth 20000 in
theorem ggX7_digest_X7_mixPart : GoodIn wsX7_digest wsX7_mixPart := goodIn_r _ [22, 5, 23, 10, 11, 12, 13, 14, 15, 2, 24, 25, 26, 27, 28, 29, 30, 31, 32, 33, 34, 35, 36, 16, 17, 18, 37, 38, 39, 40, 41, 42, 43, 44, 45, 46, 47, 48, 49, 50, 51, 52, 53, 54, 55, 56, 57, 58, 59, 60, 4, 61, 62, 63, 64, 101, 102, 103, 104, 105, 106, 107, 108, 109, 110, 111, 112, 113, 114] (by decide +kernel) (by decide +kernel)
set_option maxRecDepth 20000 in
theorem gX7_digest_X7_mixPart : GoodIn wsX7_digest (wsV RX7 162 RX7 yX7_mixPart wsX7_mixPart) := goodIn_app (goodIn_of _ (by decide +kernel)) ggX7_digest_X7_mixPart
set_option maxRecDepth 20000 in
theorem ggX7_digest_X7_layClashes : GoodIn wsX7_digest wsX7_layClashes := goodIn_r _ [68, 6, 5, 7, 69, 70, 71, 13, 72, 49, 50, 51, 52, 53, 54, 55, 56, 23, 16, 17, 18, 57, 58, 59, 60, 4, 28, 101, 102, 103, 104, 105, 106, 107, 108, 109, 110, 111, 112, 113, 114] (by decide +kernel) (by decide +kernel)
set_option maxRecDepth 20000 in
theorem gX7_digest_X7_layClashes : GoodIn wsX7_digest (wsV RX7 125 RX7 yX7_layClashes wsX7_layClashes) := goodIn_app (goodIn_of _ (by decide +kernel)) ggX7_digest_X7_layClashes
set_option maxRecDepth 20000 in
theorem ggX7_digest_X7_causeNow : GoodIn wsX7_digest wsX7_causeNow := goodIn_r _ [76, 5, 16, 17, 13, 18, 77, 78, 79, 69, 70, 71, 72, 49, 50, 51, 52, 53, 54, 55, 56, 23, 57, 58, 59, 60, 4, 28, 101, 102, 103, 104, 105, 106, 107, 108, 109, 110, 111, 112, 113, 114] (by decide +kernel) (by decide +kernel)
set_option maxRecDepth 20000 in
theorem gX7_digest_X7_causeNow : GoodIn wsX7_digest (wsV RX7 131 RX7 yX7_causeNow wsX7_causeNow) := goodIn_app (goodIn_of _ (by decide +kernel)) ggX7_digest_X7_causeNow
set_option maxRecDepth 20000 in
theorem ggX7_digest_X7_cureNow : GoodIn wsX7_digest wsX7_cureNow := goodIn_r _ [83, 5, 77, 78, 13, 79, 84, 85, 86, 87, 69, 70, 71, 72, 49, 50, 51, 52, 53, 54, 55, 56, 23, 16, 17, 18, 57, 58, 59, 60, 4, 28, 101, 102, 103, 104, 105, 106, 107, 108, 109, 110, 111, 112, 113, 114] (by decide +kernel) (by decide +kernel)
set_option maxRecDepth 20000 in
theorem gX7_digest_X7_cureNow : GoodIn wsX7_digest (wsV RX7 137 RX7 yX7_cureNow wsX7_cureNow) := goodIn_app (goodIn_of _ (by decide +kernel)) ggX7_digest_X7_cureNow
set_option maxRecDepth 20000 in
theorem ggX7_digest_X7_howMany : GoodIn wsX7_digest wsX7_howMany := goodIn_r _ [91, 8, 3, 5, 92, 77, 78, 13, 79, 93, 94, 95, 96, 16, 17, 18, 37, 38, 39, 40, 23, 97, 98, 99, 100, 6, 7, 65, 66, 67, 68, 69, 70, 71, 72, 49, 50, 51, 52, 53, 54, 55, 56, 57, 58, 59, 60, 4, 28, 101, 102, 103, 104, 105, 106, 107, 108, 109, 110, 111, 112, 113, 114] (by decide +kernel) (by decide +kernel)
set_option maxRecDepth 20000 in
theorem gX7_digest_X7_howMany : GoodIn wsX7_digest (wsV RX7 147 RX7 yX7_howMany wsX7_howMany) := goodIn_app (goodIn_of _ (by decide +kernel)) ggX7_digest_X7_howMany
theorem dX7_digest_0 : decode cX7_digest 0 = .ok (.aload_n 0, 1) := by decide +kernel
theorem dX7_digest_1 : decode cX7_digest 1 = .ok (.ldc2_w 160, 3) := by decide +kernel
theorem dX7_digest_4 : decode cX7_digest 4 = .ok (.putfield 152, 3) := by decide +kernel
theorem dX7_digest_7 : decode cX7_digest 7 = .ok (.iconst 0, 1) := by decide +kernel
theorem dX7_digest_8 : decode cX7_digest 8 = .ok (.istore_n 1, 1) := by decide +kernel
theorem dX7_digest_9 : decode cX7_digest 9 = .ok (.iload_n 1, 1) := by decide +kernel
theorem dX7_digest_10 : decode cX7_digest 10 = .ok (.bipush 12, 2) := by decide +kernel
theorem dX7_digest_12 : decode cX7_digest 12 = .ok (.aload_n 0, 1) := by decide +kernel
theorem dX7_digest_13 : decode cX7_digest 13 = .ok (.getfield 47, 3) := by decide +kernel
theorem dX7_digest_16 : decode cX7_digest 16 = .ok (.imul, 1) := by decide +kernel
theorem dX7_digest_17 : decode cX7_digest 17 = .ok (.if_icmp .ge 20, 3) := by decide +kernel
theorem dX7_digest_20 : decode cX7_digest 20 = .ok (.aload_n 0, 1) := by decide +kernel
theorem dX7_digest_21 : decode cX7_digest 21 = .ok (.aload_n 0, 1) := by decide +kernel
theorem dX7_digest_22 : decode cX7_digest 22 = .ok (.getfield 13, 3) := by decide +kernel
theorem dX7_digest_25 : decode cX7_digest 25 = .ok (.iload_n 1, 1) := by decide +kernel
theorem dX7_digest_26 : decode cX7_digest 26 = .ok (.iaload, 1) := by decide +kernel
theorem dX7_digest_27 : decode cX7_digest 27 = .ok (.i2l, 1) := by decide +kernel
theorem dX7_digest_28 : decode cX7_digest 28 = .ok (.invokevirtual 156, 3) := by decide +kernel
theorem dX7_digest_31 : decode cX7_digest 31 = .ok (.iinc 1 1, 3) := by decide +kernel
theorem dX7_digest_34 : decode cX7_digest 34 = .ok (.goto (-25), 3) := by decide +kernel
theorem dX7_digest_37 : decode cX7_digest 37 = .ok (.iconst 0, 1) := by decide +kernel
theorem dX7_digest_38 : decode cX7_digest 38 = .ok (.istore_n 1, 1) := by decide +kernel
theorem dX7_digest_39 : decode cX7_digest 39 = .ok (.iload_n 1, 1) := by decide +kernel
theorem dX7_digest_40 : decode cX7_digest 40 = .ok (.bipush 8, 2) := by decide +kernel
theorem dX7_digest_42 : decode cX7_digest 42 = .ok (.if_icmp .ge 25, 3) := by decide +kernel
theorem dX7_digest_45 : decode cX7_digest 45 = .ok (.aload_n 0, 1) := by decide +kernel
theorem dX7_digest_46 : decode cX7_digest 46 = .ok (.getfield 65, 3) := by decide +kernel
theorem dX7_digest_49 : decode cX7_digest 49 = .ok (.iload_n 1, 1) := by decide +kernel
theorem dX7_digest_50 : decode cX7_digest 50 = .ok (.invokestatic 68, 3) := by decide +kernel
theorem dX7_digest_53 : decode cX7_digest 53 = .ok (.ifCond .eq 8, 3) := by decide +kernel
theorem dX7_digest_56 : decode cX7_digest 56 = .ok (.aload_n 0, 1) := by decide +kernel
theorem dX7_digest_57 : decode cX7_digest 57 = .ok (.iload_n 1, 1) := by decide +kernel
theorem dX7_digest_58 : decode cX7_digest 58 = .ok (.invokevirtual 162, 3) := by decide +kernel
theorem dX7_digest_61 : decode cX7_digest 61 = .ok (.iinc 1 1, 3) := by decide +kernel
theorem dX7_digest_64 : decode cX7_digest 64 = .ok (.goto (-25), 3) := by decide +kernel
theorem dX7_digest_67 : decode cX7_digest 67 = .ok (.aload_n 0, 1) := by decide +kernel
theorem dX7_digest_68 : decode cX7_digest 68 = .ok (.invokevirtual 125, 3) := by decide +kernel
theorem dX7_digest_71 : decode cX7_digest 71 = .ok (.iconst 0, 1) := by decide +kernel
theorem dX7_digest_72 : decode cX7_digest 72 = .ok (.istore_n 1, 1) := by decide +kernel
theorem dX7_digest_73 : decode cX7_digest 73 = .ok (.iload_n 1, 1) := by decide +kernel
theorem dX7_digest_74 : decode cX7_digest 74 = .ok (.aload_n 0, 1) := by decide +kernel
theorem dX7_digest_75 : decode cX7_digest 75 = .ok (.getfield 119, 3) := by decide +kernel
theorem dX7_digest_78 : decode cX7_digest 78 = .ok (.if_icmp .ge 47, 3) := by decide +kernel
theorem dX7_digest_81 : decode cX7_digest 81 = .ok (.aload_n 0, 1) := by decide +kernel
theorem dX7_digest_82 : decode cX7_digest 82 = .ok (.aload_n 0, 1) := by decide +kernel
theorem dX7_digest_83 : decode cX7_digest 83 = .ok (.getfield 28, 3) := by decide +kernel
theorem dX7_digest_86 : decode cX7_digest 86 = .ok (.iload_n 1, 1) := by decide +kernel
theorem dX7_digest_87 : decode cX7_digest 87 = .ok (.iaload, 1) := by decide +kernel
theorem dX7_digest_88 : decode cX7_digest 88 = .ok (.i2l, 1) := by decide +kernel
theorem dX7_digest_89 : decode cX7_digest 89 = .ok (.invokevirtual 156, 3) := by decide +kernel
theorem dX7_digest_92 : decode cX7_digest 92 = .ok (.aload_n 0, 1) := by decide +kernel
theorem dX7_digest_93 : decode cX7_digest 93 = .ok (.aload_n 0, 1) := by decide +kernel
theorem dX7_digest_94 : decode cX7_digest 94 = .ok (.aload_n 0, 1) := by decide +kernel
theorem dX7_digest_95 : decode cX7_digest 95 = .ok (.getfield 28, 3) := by decide +kernel
theorem dX7_digest_98 : decode cX7_digest 98 = .ok (.iload_n 1, 1) := by decide +kernel
theorem dX7_digest_99 : decode cX7_digest 99 = .ok (.iaload, 1) := by decide +kernel
theorem dX7_digest_100 : decode cX7_digest 100 = .ok (.bipush 6, 2) := by decide +kernel
theorem dX7_digest_102 : decode cX7_digest 102 = .ok (.idiv, 1) := by decide +kernel
theorem dX7_digest_103 : decode cX7_digest 103 = .ok (.aload_n 0, 1) := by decide +kernel
theorem dX7_digest_104 : decode cX7_digest 104 = .ok (.getfield 28, 3) := by decide +kernel
theorem dX7_digest_107 : decode cX7_digest 107 = .ok (.iload_n 1, 1) := by decide +kernel
theorem dX7_digest_108 : decode cX7_digest 108 = .ok (.iaload, 1) := by decide +kernel
theorem dX7_digest_109 : decode cX7_digest 109 = .ok (.bipush 6, 2) := by decide +kernel
theorem dX7_digest_111 : decode cX7_digest 111 = .ok (.irem, 1) := by decide +kernel
theorem dX7_digest_112 : decode cX7_digest 112 = .ok (.invokevirtual 131, 3) := by decide +kernel
theorem dX7_digest_115 : decode cX7_digest 115 = .ok (.i2l, 1) := by decide +kernel
theorem dX7_digest_116 : decode cX7_digest 116 = .ok (.invokevirtual 156, 3) := by decide +kernel
theorem dX7_digest_119 : decode cX7_digest 119 = .ok (.iinc 1 1, 3) := by decide +kernel
theorem dX7_digest_122 : decode cX7_digest 122 = .ok (.goto (-49), 3) := by decide +kernel
theorem dX7_digest_125 : decode cX7_digest 125 = .ok (.aload_n 0, 1) := by decide +kernel
theorem dX7_digest_126 : decode cX7_digest 126 = .ok (.aload_n 0, 1) := by decide +kernel
theorem dX7_digest_127 : decode cX7_digest 127 = .ok (.invokevirtual 137, 3) := by decide +kernel
theorem dX7_digest_130 : decode cX7_digest 130 = .ok (.i2l, 1) := by decide +kernel
theorem dX7_digest_131 : decode cX7_digest 131 = .ok (.invokevirtual 156, 3) := by decide +kernel
theorem dX7_digest_134 : decode cX7_digest 134 = .ok (.iconst 0, 1) := by decide +kernel
theorem dX7_digest_135 : decode cX7_digest 135 = .ok (.istore_n 1, 1) := by decide +kernel
theorem dX7_digest_136 : decode cX7_digest 136 = .ok (.iload_n 1, 1) := by decide +kernel
theorem dX7_digest_137 : decode cX7_digest 137 = .ok (.aload_n 0, 1) := by decide +kernel
theorem dX7_digest_138 : decode cX7_digest 138 = .ok (.getfield 35, 3) := by decide +kernel
theorem dX7_digest_141 : decode cX7_digest 141 = .ok (.if_icmp .ge 20, 3) := by decide +kernel
theorem dX7_digest_144 : decode cX7_digest 144 = .ok (.aload_n 0, 1) := by decide +kernel
theorem dX7_digest_145 : decode cX7_digest 145 = .ok (.aload_n 0, 1) := by decide +kernel
theorem dX7_digest_146 : decode cX7_digest 146 = .ok (.getfield 7, 3) := by decide +kernel
theorem dX7_digest_149 : decode cX7_digest 149 = .ok (.iload_n 1, 1) := by decide +kernel
theorem dX7_digest_150 : decode cX7_digest 150 = .ok (.iaload, 1) := by decide +kernel
theorem dX7_digest_151 : decode cX7_digest 151 = .ok (.i2l, 1) := by decide +kernel
theorem dX7_digest_152 : decode cX7_digest 152 = .ok (.invokevirtual 156, 3) := by decide +kernel
theorem dX7_digest_155 : decode cX7_digest 155 = .ok (.iinc 1 1, 3) := by decide +kernel
theorem dX7_digest_158 : decode cX7_digest 158 = .ok (.goto (-22), 3) := by decide +kernel
theorem dX7_digest_161 : decode cX7_digest 161 = .ok (.iconst 0, 1) := by decide +kernel
theorem dX7_digest_162 : decode cX7_digest 162 = .ok (.istore_n 1, 1) := by decide +kernel
theorem dX7_digest_163 : decode cX7_digest 163 = .ok (.iload_n 1, 1) := by decide +kernel
theorem dX7_digest_164 : decode cX7_digest 164 = .ok (.bipush 8, 2) := by decide +kernel
theorem dX7_digest_166 : decode cX7_digest 166 = .ok (.if_icmp .ge 19, 3) := by decide +kernel
theorem dX7_digest_169 : decode cX7_digest 169 = .ok (.aload_n 0, 1) := by decide +kernel
theorem dX7_digest_170 : decode cX7_digest 170 = .ok (.aload_n 0, 1) := by decide +kernel
theorem dX7_digest_171 : decode cX7_digest 171 = .ok (.iload_n 1, 1) := by decide +kernel
theorem dX7_digest_172 : decode cX7_digest 172 = .ok (.invokevirtual 147, 3) := by decide +kernel
theorem dX7_digest_175 : decode cX7_digest 175 = .ok (.i2l, 1) := by decide +kernel
theorem dX7_digest_176 : decode cX7_digest 176 = .ok (.invokevirtual 156, 3) := by decide +kernel
theorem dX7_digest_179 : decode cX7_digest 179 = .ok (.iinc 1 1, 3) := by decide +kernel
theorem dX7_digest_182 : decode cX7_digest 182 = .ok (.goto (-19), 3) := by decide +kernel
theorem dX7_digest_185 : decode cX7_digest 185 = .ok (.aload_n 0, 1) := by decide +kernel
theorem dX7_digest_186 : decode cX7_digest 186 = .ok (.getfield 152, 3) := by decide +kernel
theorem dX7_digest_189 : decode cX7_digest 189 = .ok (.lreturn, 1) := by decide +kernel
theorem dJ6_bitCount_0f7a4_0 : decode cJ6_bitCount_0f7a4 0 = .ok (.iload_n 0, 1) := by decide +kernel
theorem dJ6_bitCount_0f7a4_1 : decode cJ6_bitCount_0f7a4 1 = .ok (.iload_n 0, 1) := by decide +kernel
theorem dJ6_bitCount_0f7a4_2 : decode cJ6_bitCount_0f7a4 2 = .ok (.iconst 1, 1) := by decide +kernel
theorem dJ6_bitCount_0f7a4_3 : decode cJ6_bitCount_0f7a4 3 = .ok (.iushr, 1) := by decide +kernel
theorem dJ6_bitCount_0f7a4_4 : decode cJ6_bitCount_0f7a4 4 = .ok (.ldc_w 265, 3) := by decide +kernel
theorem dJ6_bitCount_0f7a4_7 : decode cJ6_bitCount_0f7a4 7 = .ok (.iand, 1) := by decide +kernel
theorem dJ6_bitCount_0f7a4_8 : decode cJ6_bitCount_0f7a4 8 = .ok (.isub, 1) := by decide +kernel
theorem dJ6_bitCount_0f7a4_9 : decode cJ6_bitCount_0f7a4 9 = .ok (.istore_n 0, 1) := by decide +kernel
theorem dJ6_bitCount_0f7a4_10 : decode cJ6_bitCount_0f7a4 10 = .ok (.iload_n 0, 1) := by decide +kernel
theorem dJ6_bitCount_0f7a4_11 : decode cJ6_bitCount_0f7a4 11 = .ok (.ldc_w 266, 3) := by decide +kernel
theorem dJ6_bitCount_0f7a4_14 : decode cJ6_bitCount_0f7a4 14 = .ok (.iand, 1) := by decide +kernel
theorem dJ6_bitCount_0f7a4_15 : decode cJ6_bitCount_0f7a4 15 = .ok (.iload_n 0, 1) := by decide +kernel
theorem dJ6_bitCount_0f7a4_16 : decode cJ6_bitCount_0f7a4 16 = .ok (.iconst 2, 1) := by decide +kernel
theorem dJ6_bitCount_0f7a4_17 : decode cJ6_bitCount_0f7a4 17 = .ok (.iushr, 1) := by decide +kernel
theorem dJ6_bitCount_0f7a4_18 : decode cJ6_bitCount_0f7a4 18 = .ok (.ldc_w 266, 3) := by decide +kernel
theorem dJ6_bitCount_0f7a4_21 : decode cJ6_bitCount_0f7a4 21 = .ok (.iand, 1) := by decide +kernel
theorem dJ6_bitCount_0f7a4_22 : decode cJ6_bitCount_0f7a4 22 = .ok (.iadd, 1) := by decide +kernel
theorem dJ6_bitCount_0f7a4_23 : decode cJ6_bitCount_0f7a4 23 = .ok (.istore_n 0, 1) := by decide +kernel
theorem dJ6_bitCount_0f7a4_24 : decode cJ6_bitCount_0f7a4 24 = .ok (.iload_n 0, 1) := by decide +kernel
theorem dJ6_bitCount_0f7a4_25 : decode cJ6_bitCount_0f7a4 25 = .ok (.iload_n 0, 1) := by decide +kernel
theorem dJ6_bitCount_0f7a4_26 : decode cJ6_bitCount_0f7a4 26 = .ok (.iconst 4, 1) := by decide +kernel
theorem dJ6_bitCount_0f7a4_27 : decode cJ6_bitCount_0f7a4 27 = .ok (.iushr, 1) := by decide +kernel
theorem dJ6_bitCount_0f7a4_28 : decode cJ6_bitCount_0f7a4 28 = .ok (.iadd, 1) := by decide +kernel
theorem dJ6_bitCount_0f7a4_29 : decode cJ6_bitCount_0f7a4 29 = .ok (.ldc_w 267, 3) := by decide +kernel
theorem dJ6_bitCount_0f7a4_32 : decode cJ6_bitCount_0f7a4 32 = .ok (.iand, 1) := by decide +kernel
theorem dJ6_bitCount_0f7a4_33 : decode cJ6_bitCount_0f7a4 33 = .ok (.istore_n 0, 1) := by decide +kernel
theorem dJ6_bitCount_0f7a4_34 : decode cJ6_bitCount_0f7a4 34 = .ok (.iload_n 0, 1) := by decide +kernel
theorem dJ6_bitCount_0f7a4_35 : decode cJ6_bitCount_0f7a4 35 = .ok (.iload_n 0, 1) := by decide +kernel
theorem dJ6_bitCount_0f7a4_36 : decode cJ6_bitCount_0f7a4 36 = .ok (.bipush 8, 2) := by decide +kernel
theorem dJ6_bitCount_0f7a4_38 : decode cJ6_bitCount_0f7a4 38 = .ok (.iushr, 1) := by decide +kernel
theorem dJ6_bitCount_0f7a4_39 : decode cJ6_bitCount_0f7a4 39 = .ok (.iadd, 1) := by decide +kernel
theorem dJ6_bitCount_0f7a4_40 : decode cJ6_bitCount_0f7a4 40 = .ok (.istore_n 0, 1) := by decide +kernel
theorem dJ6_bitCount_0f7a4_41 : decode cJ6_bitCount_0f7a4 41 = .ok (.iload_n 0, 1) := by decide +kernel
theorem dJ6_bitCount_0f7a4_42 : decode cJ6_bitCount_0f7a4 42 = .ok (.iload_n 0, 1) := by decide +kernel
theorem dJ6_bitCount_0f7a4_43 : decode cJ6_bitCount_0f7a4 43 = .ok (.bipush 16, 2) := by decide +kernel
theorem dJ6_bitCount_0f7a4_45 : decode cJ6_bitCount_0f7a4 45 = .ok (.iushr, 1) := by decide +kernel
theorem dJ6_bitCount_0f7a4_46 : decode cJ6_bitCount_0f7a4 46 = .ok (.iadd, 1) := by decide +kernel
theorem dJ6_bitCount_0f7a4_47 : decode cJ6_bitCount_0f7a4 47 = .ok (.istore_n 0, 1) := by decide +kernel
theorem dJ6_bitCount_0f7a4_48 : decode cJ6_bitCount_0f7a4 48 = .ok (.iload_n 0, 1) := by decide +kernel
theorem dJ6_bitCount_0f7a4_49 : decode cJ6_bitCount_0f7a4 49 = .ok (.bipush 63, 2) := by decide +kernel
theorem dJ6_bitCount_0f7a4_51 : decode cJ6_bitCount_0f7a4 51 = .ok (.iand, 1) := by decide +kernel
theorem dJ6_bitCount_0f7a4_52 : decode cJ6_bitCount_0f7a4 52 = .ok (.ireturn, 1) := by decide +kernel
theorem dJ13_bitCount_95d88_0 : decode cJ13_bitCount_95d88 0 = .ok (.lload_n 0, 1) := by decide +kernel
theorem dJ13_bitCount_95d88_1 : decode cJ13_bitCount_95d88 1 = .ok (.lload_n 0, 1) := by decide +kernel
theorem dJ13_bitCount_95d88_2 : decode cJ13_bitCount_95d88 2 = .ok (.iconst 1, 1) := by decide +kernel
theorem dJ13_bitCount_95d88_3 : decode cJ13_bitCount_95d88 3 = .ok (.lushr, 1) := by decide +kernel
theorem dJ13_bitCount_95d88_4 : decode cJ13_bitCount_95d88 4 = .ok (.ldc2_w 314, 3) := by decide +kernel
theorem dJ13_bitCount_95d88_7 : decode cJ13_bitCount_95d88 7 = .ok (.land, 1) := by decide +kernel
theorem dJ13_bitCount_95d88_8 : decode cJ13_bitCount_95d88 8 = .ok (.lsub, 1) := by decide +kernel
theorem dJ13_bitCount_95d88_9 : decode cJ13_bitCount_95d88 9 = .ok (.lstore_n 0, 1) := by decide +kernel
theorem dJ13_bitCount_95d88_10 : decode cJ13_bitCount_95d88 10 = .ok (.lload_n 0, 1) := by decide +kernel
theorem dJ13_bitCount_95d88_11 : decode cJ13_bitCount_95d88 11 = .ok (.ldc2_w 316, 3) := by decide +kernel
theorem dJ13_bitCount_95d88_14 : decode cJ13_bitCount_95d88 14 = .ok (.land, 1) := by decide +kernel
theorem dJ13_bitCount_95d88_15 : decode cJ13_bitCount_95d88 15 = .ok (.lload_n 0, 1) := by decide +kernel
theorem dJ13_bitCount_95d88_16 : decode cJ13_bitCount_95d88 16 = .ok (.iconst 2, 1) := by decide +kernel
theorem dJ13_bitCount_95d88_17 : decode cJ13_bitCount_95d88 17 = .ok (.lushr, 1) := by decide +kernel
theorem dJ13_bitCount_95d88_18 : decode cJ13_bitCount_95d88 18 = .ok (.ldc2_w 316, 3) := by decide +kernel
theorem dJ13_bitCount_95d88_21 : decode cJ13_bitCount_95d88 21 = .ok (.land, 1) := by decide +kernel
theorem dJ13_bitCount_95d88_22 : decode cJ13_bitCount_95d88 22 = .ok (.ladd, 1) := by decide +kernel
theorem dJ13_bitCount_95d88_23 : decode cJ13_bitCount_95d88 23 = .ok (.lstore_n 0, 1) := by decide +kernel
theorem dJ13_bitCount_95d88_24 : decode cJ13_bitCount_95d88 24 = .ok (.lload_n 0, 1) := by decide +kernel
theorem dJ13_bitCount_95d88_25 : decode cJ13_bitCount_95d88 25 = .ok (.lload_n 0, 1) := by decide +kernel
theorem dJ13_bitCount_95d88_26 : decode cJ13_bitCount_95d88 26 = .ok (.iconst 4, 1) := by decide +kernel
theorem dJ13_bitCount_95d88_27 : decode cJ13_bitCount_95d88 27 = .ok (.lushr, 1) := by decide +kernel
theorem dJ13_bitCount_95d88_28 : decode cJ13_bitCount_95d88 28 = .ok (.ladd, 1) := by decide +kernel
theorem dJ13_bitCount_95d88_29 : decode cJ13_bitCount_95d88 29 = .ok (.ldc2_w 318, 3) := by decide +kernel
theorem dJ13_bitCount_95d88_32 : decode cJ13_bitCount_95d88 32 = .ok (.land, 1) := by decide +kernel
theorem dJ13_bitCount_95d88_33 : decode cJ13_bitCount_95d88 33 = .ok (.lstore_n 0, 1) := by decide +kernel
theorem dJ13_bitCount_95d88_34 : decode cJ13_bitCount_95d88 34 = .ok (.lload_n 0, 1) := by decide +kernel
theorem dJ13_bitCount_95d88_35 : decode cJ13_bitCount_95d88 35 = .ok (.lload_n 0, 1) := by decide +kernel
theorem dJ13_bitCount_95d88_36 : decode cJ13_bitCount_95d88 36 = .ok (.bipush 8, 2) := by decide +kernel
theorem dJ13_bitCount_95d88_38 : decode cJ13_bitCount_95d88 38 = .ok (.lushr, 1) := by decide +kernel
theorem dJ13_bitCount_95d88_39 : decode cJ13_bitCount_95d88 39 = .ok (.ladd, 1) := by decide +kernel
theorem dJ13_bitCount_95d88_40 : decode cJ13_bitCount_95d88 40 = .ok (.lstore_n 0, 1) := by decide +kernel
theorem dJ13_bitCount_95d88_41 : decode cJ13_bitCount_95d88 41 = .ok (.lload_n 0, 1) := by decide +kernel
theorem dJ13_bitCount_95d88_42 : decode cJ13_bitCount_95d88 42 = .ok (.lload_n 0, 1) := by decide +kernel
theorem dJ13_bitCount_95d88_43 : decode cJ13_bitCount_95d88 43 = .ok (.bipush 16, 2) := by decide +kernel
theorem dJ13_bitCount_95d88_45 : decode cJ13_bitCount_95d88 45 = .ok (.lushr, 1) := by decide +kernel
theorem dJ13_bitCount_95d88_46 : decode cJ13_bitCount_95d88 46 = .ok (.ladd, 1) := by decide +kernel
theorem dJ13_bitCount_95d88_47 : decode cJ13_bitCount_95d88 47 = .ok (.lstore_n 0, 1) := by decide +kernel
theorem dJ13_bitCount_95d88_48 : decode cJ13_bitCount_95d88 48 = .ok (.lload_n 0, 1) := by decide +kernel
theorem dJ13_bitCount_95d88_49 : decode cJ13_bitCount_95d88 49 = .ok (.lload_n 0, 1) := by decide +kernel
theorem dJ13_bitCount_95d88_50 : decode cJ13_bitCount_95d88 50 = .ok (.bipush 32, 2) := by decide +kernel
theorem dJ13_bitCount_95d88_52 : decode cJ13_bitCount_95d88 52 = .ok (.lushr, 1) := by decide +kernel
theorem dJ13_bitCount_95d88_53 : decode cJ13_bitCount_95d88 53 = .ok (.ladd, 1) := by decide +kernel
theorem dJ13_bitCount_95d88_54 : decode cJ13_bitCount_95d88 54 = .ok (.lstore_n 0, 1) := by decide +kernel
theorem dJ13_bitCount_95d88_55 : decode cJ13_bitCount_95d88 55 = .ok (.lload_n 0, 1) := by decide +kernel
theorem dJ13_bitCount_95d88_56 : decode cJ13_bitCount_95d88 56 = .ok (.l2i, 1) := by decide +kernel
theorem dJ13_bitCount_95d88_57 : decode cJ13_bitCount_95d88 57 = .ok (.bipush 127, 2) := by decide +kernel
theorem dJ13_bitCount_95d88_59 : decode cJ13_bitCount_95d88 59 = .ok (.iand, 1) := by decide +kernel
theorem dJ13_bitCount_95d88_60 : decode cJ13_bitCount_95d88 60 = .ok (.ireturn, 1) := by decide +kernel
end
section
theorem dJ7_fill_53178_0 : decode cJ7_fill_53178 0 = .ok (.iconst 0, 1) := by decide +kernel
theorem dJ7_fill_53178_1 : decode cJ7_fill_53178 1 = .ok (.istore_n 2, 1) := by decide +kernel
theorem dJ7_fill_53178_2 : decode cJ7_fill_53178 2 = .ok (.aload_n 0, 1) := by decide +kernel
theorem dJ7_fill_53178_3 : decode cJ7_fill_53178 3 = .ok (.arraylength, 1) := by decide +kernel
theorem dJ7_fill_53178_4 : decode cJ7_fill_53178 4 = .ok (.istore_n 3, 1) := by decide +kernel
theorem dJ7_fill_53178_5 : decode cJ7_fill_53178 5 = .ok (.iload_n 2, 1) := by decide +kernel
theorem dJ7_fill_53178_6 : decode cJ7_fill_53178 6 = .ok (.iload_n 3, 1) := by decide +kernel
theorem dJ7_fill_53178_7 : decode cJ7_fill_53178 7 = .ok (.if_icmp .ge 13, 3) := by decide +kernel
theorem dJ7_fill_53178_10 : decode cJ7_fill_53178 10 = .ok (.aload_n 0, 1) := by decide +kernel
theorem dJ7_fill_53178_11 : decode cJ7_fill_53178 11 = .ok (.iload_n 2, 1) := by decide +kernel
theorem dJ7_fill_53178_12 : decode cJ7_fill_53178 12 = .ok (.iload_n 1, 1) := by decide +kernel
theorem dJ7_fill_53178_13 : decode cJ7_fill_53178 13 = .ok (.iastore, 1) := by decide +kernel
theorem dJ7_fill_53178_14 : decode cJ7_fill_53178 14 = .ok (.iinc 2 1, 3) := by decide +kernel
theorem dJ7_fill_53178_17 : decode cJ7_fill_53178 17 = .ok (.goto (-12), 3) := by decide +kernel
theorem dJ7_fill_53178_20 : decode cJ7_fill_53178 20 = .ok (.return_, 1) := by decide +kernel
abbrev vwCl : List vw_C := [(RX0, TX0, 2), (RX1, TX1, 4), (RX2, TX2, 2), (RX3, TX3, 8), (RX5, TX5, 2), (RX6, TX6, 5), (RX7, TX7, 14)]
end
section
/-! pure words: a loop by steps, a guard, an index in its row; how an answer of a pure run is taken apart -/
def jx_iter {σ ρ : Type} (step : σ → Option (σ ⊕ ρ)) : Nat → σ → Option ρ
  | 0, _ => none
  | n + 1, s => (step s).bind fun r => match r with
    | .inl s' => jx_iter step n s'
    | .inr x => some x
def jx_gd (b : Bool) : Option Unit := if b then some () else none
def jx_in (i : Int32) (n : Nat) : Bool := decide (¬ (i < 0 ∨ n ≤ i.toNatClampNeg))
theorem jx_bs {α β : Type} {o : Option α} {k : α → Option β} {r : β} (h : o.bind k = some r) : ∃ a, o = some a ∧ k a = some r := by
  cases o with
  | none => simp at h
  | some a => exact ⟨a, rfl, h⟩
theorem jx_gs {β : Type} {b : Bool} {k : Unit → Option β} {r : β} (h : (jx_gd b).bind k = some r) : b = true ∧ k () = some r := by
  cases b with
  | false => simp [jx_gd] at h
  | true => exact ⟨rfl, h⟩
theorem jx_ip {i : Int32} {n : Nat} (h : jx_in i n = true) : vp_in i n := by
  unfold jx_in at h
  have h2 : ¬ (i < 0 ∨ n ≤ i.toNatClampNeg) := of_decide_eq_true h
  exact h2
theorem jx_pos {α : Type} {c : Prop} [Decidable c] {a b : Option α} {r : α} (hc : c) (h : (if c then a else b) = some r) : a = some r := by
  rwa [if_pos hc] at h
theorem jx_neg {α : Type} {c : Prop} [Decidable c] {a b : Option α} {r : α} (hc : ¬ c) (h : (if c then a else b) = some r) : b = some r := by
  rwa [if_neg hc] at h
theorem jx_eq {α : Type} {a b : α} (h : some a = some b) : a = b := Option.some.inj h
theorem jx_S {A : Nat → Prop} {H0 H : Heap} {locs : List Loc} (h : va_S A H0 H locs) : ∀ l ∈ locs, A l.base := h.2.2
end
section
/-! the nest's links, contracts of one form, a call in one row -/
def jx_nw : List Cond := [.methodLinkNest "PassedDuties" 11 yX2_init "PassedDuties", .fieldLinkNest "PassedDuties" 200 "PassedDuties$Page" "codes" "[I" "PassedDuties", .fieldLinkNest "PassedDuties" 46 "PassedDuties$Page" "length" "I" "PassedDuties", .methodLinkNest "PassedDuties" 18 yX0_init "PassedDuties", .fieldLinkNest "PassedDuties" 76 "PassedDuties$Book" "rows" "[J" "PassedDuties", .fieldLinkNest "PassedDuties" 153 "PassedDuties$Book" "size" "I" "PassedDuties", .fieldLinkNest "PassedDuties" 101 "PassedDuties$Parts" "under" "[I" "PassedDuties", .fieldLinkNest "PassedDuties$Ways" 37 "PassedDuties$Parts" "own" "[J" "PassedDuties", .fieldLinkNest "PassedDuties$Clashes" 26 "PassedDuties$Parts" "come" "[J" "PassedDuties", .fieldLinkNest "PassedDuties" 116 "PassedDuties$Parts" "come" "[J" "PassedDuties", .fieldLinkNest "PassedDuties$Clashes" 52 "PassedDuties$Parts" "there" "I" "PassedDuties", .fieldLinkNest "PassedDuties" 156 "PassedDuties$Parts" "there" "I" "PassedDuties", .fieldLinkNest "PassedDuties" 177 "PassedDuties$Parts" "timesLeft" "I" "PassedDuties", .fieldLinkNest "PassedDuties$Clashes" 65 "PassedDuties$Parts" "changes" "I" "PassedDuties", .methodLinkNest "PassedDuties$Page" 26 yX6_isSet "PassedDuties", .methodLinkNest "PassedDuties$Reaches" 9 yX6_isSet "PassedDuties", .methodLinkNest "PassedDuties$Parts" 44 yX6_isSet "PassedDuties", .methodLinkNest "PassedDuties$Clashes" 45 yX6_isSet "PassedDuties"]
def jx_N (U : State) : Prop := ∀ w ∈ jx_nw, va_Nw w U
def jx_isN : Cond → Bool
  | .methodLinkNest _ _ _ _ => true
  | .fieldLinkNest _ _ _ _ _ _ => true
  | _ => false
theorem jx_nw_isN : ∀ w ∈ jx_nw, jx_isN w = true := by decide +kernel
theorem jx_nw_tab : ∀ w ∈ jx_nw, w.onTables = true := by decide +kernel
theorem jx_nw_in : ∀ w ∈ jx_nw, w ∈ tables_1 := by decide +kernel
theorem jx_N_warm {s U : State} (hW : s.WarmedH U.vm) (h : jx_N s) : jx_N U := by
  intro w hw
  have h1 := h w hw
  have h2 := jx_nw_isN w hw
  revert h1 h2
  cases w <;> intro h1 h2 <;> first | (exact va_Nw.warmM hW h1) | (exact va_Nw.warmF hW h1) | (exact absurd h2 (by decide)) | (simp [jx_isN] at h2)
theorem jx_N_same {u U : State} (h : u.vm = U.vm) (hN : jx_N u) : jx_N U := fun w hw => va_Nw.same (jx_nw_tab w hw) h (hN w hw)
theorem jx_fm {α β : Type} {f : α → Option β} {is : List α} {w : List β} (h : is.map f = w.map some) : is.filterMap f = w := by
  have h1 : is.filterMap f = (is.map f).filterMap id := by rw [List.filterMap_map]; rfl
  rw [h1, h, List.filterMap_map]
  simp
abbrev jx_pre (D : va_G) (tys : List (ClassId × FieldType)) (av : List Value) (ws : va_W) (sz : Nat) : Array Value → State → Prop := va_Pc av (fun U => U.heap.size = sz ∧ va_P D vwCl ws U.heap ∧ va_K D vwCl tys U ∧ va_D (fun _ => True) ws ∧ jx_N U)
abbrev jx_B (D : va_G) (tys : List (ClassId × FieldType)) (ws' : va_W) (A : Nat → Prop) : Unit → State → Prop := fun _ t => va_P D vwCl ws' t.heap ∧ va_K D vwCl tys t ∧ va_D A ws'
abbrev jx_qi (r : Int32) : Int32 → Unit → Prop := fun r' _ => r' = r
abbrev jx_ql (r : Int64) : Int64 → Unit → Prop := fun r' _ => r' = r
abbrev jx_qv : Unit → Prop := fun _ => True
def jMi (l : Launch) (y : MethodName) (wds : List Cond) (rm : Room) (D : va_G) (tys : List (ClassId × FieldType)) (av : List Value) (ws : va_W) (r : Int32) (ws' : va_W) : Prop := ∀ sz : Nat, Met l y wds rm (jx_pre D tys av ws sz) (va_Qi (jx_qi r) (jx_B D tys ws' (va_A ws sz)) (va_A ws sz)) 0 0 (va_A ws sz)
def jMl (l : Launch) (y : MethodName) (wds : List Cond) (rm : Room) (D : va_G) (tys : List (ClassId × FieldType)) (av : List Value) (ws : va_W) (r : Int64) (ws' : va_W) : Prop := ∀ sz : Nat, Met l y wds rm (jx_pre D tys av ws sz) (va_Ql (jx_ql r) (jx_B D tys ws' (va_A ws sz)) (va_A ws sz)) 0 0 (va_A ws sz)
def jMv (l : Launch) (y : MethodName) (wds : List Cond) (rm : Room) (D : va_G) (tys : List (ClassId × FieldType)) (av : List Value) (ws : va_W) (ws' : va_W) : Prop := ∀ sz : Nat, Met l y wds rm (jx_pre D tys av ws sz) (va_Qv jx_qv (jx_B D tys ws' (va_A ws sz)) (va_A ws sz)) 0 0 (va_A ws sz)
theorem jx_blind (D : va_G) (tys : List (ClassId × FieldType)) (av : List Value) (ws : va_W) (sz : Nat) : FrameBlind (jx_pre D tys av ws sz) := fun a U g mk q => by
  obtain ⟨q0, q1, qP, qK, qD, qN⟩ := q
  exact ⟨q0, q1, qP, va_K.moved (u := U) (U := U.calling g mk a) (Vm.Alike.refl U.vm) qK, qD, jx_N_same (u := U) (U := U.calling g mk a) rfl qN⟩
section JXC
variable {p : Program} {l : Launch} {e : Env} {R : Room} {s : State} {m : MethodId} {args : Array Value} {below : List Frame} {meth : Method} {c : Code} {H : Heap} {locs : List Loc} {cells slots : Nat} {Q : State → Prop} {pc : Nat} {ls : Array Slot} {rest st0 : List Value} {D : va_G} {tys : List (ClassId × FieldType)} {A : Nat → Prop} {H0 : Heap} {ws wc wc' wr ws2 : va_W} {cc : ByteArray}
theorem jx_prep (hK : va_K D vwCl tys s) (hN : jx_N s) (hP : va_P D vwCl ws H) (hD : va_D A ws) (isC : List Nat) (hC : isC.map (fun i => ws[i]?) = wc.map some) (hnd : va_nd isC = true) (av : List Value) : ∀ U : State, U.heap = H → s.WarmedH U.vm → jx_pre D tys av wc H.size av.toArray U := fun U hU hW =>
  ⟨rfl, by rw [hU], by rw [hU]; exact hP.sub isC (jx_fm hC), va_K.moved hW.alike hK, (hD.sub isC hnd hC).weaken (fun _ _ _ _ => trivial), jx_N_warm hW hN⟩
theorem jx_runV {y : MethodName} {bytes : ByteArray} {maxL nL n index : Nat} {ret : Option FieldType} {wds : List Cond} {rm : Room} {Qc : Array Value → State → Outcome → State → Prop} {Ts : List Cond} {own C : String} {b : Addr} {As : List Value} {T : u_T} {N : Nat} {fs : List Value} (S : CallFix p m c cc nL s args Ts own) (hM : Met l y wds rm (jx_pre D tys (.ref b :: As) wc H.size) Qc 0 0 (va_A wc H.size)) (cw : CallW R s args own C index y bytes maxL ret wds rm 0 0 n) (hK : va_K D vwCl tys s) (hN : jx_N s) (hP : va_P D vwCl ws H) (hD : va_D A ws) (isC : List Nat) (hC : isC.map (fun i => ws[i]?) = wc.map some) (hnd : va_nd isC = true) (q0 ci : Nat) (hcl : vwCl[ci]? = some (C, T, N)) (he : ws[q0]? = some (b, .inr (ci, fs)))
    (hn : As.length = n) (hsize : ls.size = nL) (hstack : st0 = As.reverse ++ .ref b :: rest) (hW : (rest.map fun v => v.category).sum ≤ 8) (hdg : decode cc pc = .ok (.invokevirtual index, 3)) (hf : cells + 0 ≤ R.cells ∧ slots + 0 ≤ R.slots) :
    va_Run p l e R s m args below meth c H locs cells slots 0 0 (F0 m pc ls st0) rest (Qc (Value.ref b :: As).toArray) (va_A wc H.size) :=
  va_runV S hM cw ⟨jx_blind D tys _ wc H.size, va_recv hK hP hcl he, jx_prep hK hN hP hD isC hC hnd _⟩ rfl hn hsize hstack (lv_room hW) hdg hf
theorem jx_runS {y : MethodName} {bytes : ByteArray} {maxL nL n index : Nat} {ret : Option FieldType} {wds : List Cond} {rm : Room} {Qc : Array Value → State → Outcome → State → Prop} {Ts : List Cond} {own : String} {As : List Value} (S : CallFix p m c cc nL s args Ts own) (hM : Met l y wds rm (jx_pre D tys As wc H.size) Qc 0 0 (va_A wc H.size)) (cw : CallB R s args own index y bytes maxL ret wds rm 0 0 n ∧ (Cond.static y).before args s = true) (hK : va_K D vwCl tys s) (hN : jx_N s) (hP : va_P D vwCl ws H) (hD : va_D A ws) (isC : List Nat) (hC : isC.map (fun i => ws[i]?) = wc.map some) (hnd : va_nd isC = true)
    (hn : As.length = n) (hsize : ls.size = nL) (hstack : st0 = As.reverse ++ rest) (hW : (rest.map fun v => v.category).sum ≤ 8) (hdg : decode cc pc = .ok (.invokestatic index, 3)) (hf : cells + 0 ≤ R.cells ∧ slots + 0 ≤ R.slots) :
    va_Run p l e R s m args below meth c H locs cells slots 0 0 (F0 m pc ls st0) rest (Qc As.toArray) (va_A wc H.size) :=
  va_runS S hM cw ⟨jx_blind D tys _ wc H.size, jx_prep hK hN hP hD isC hC hnd _⟩ rfl hn hsize hstack (lv_room hW) hdg hf
theorem jx_runSN {y : MethodName} {bytes : ByteArray} {maxL nL n index : Nat} {ret : Option FieldType} {wds : List Cond} {rm : Room} {Qc : Array Value → State → Outcome → State → Prop} {Ts : List Cond} {own host : String} {As : List Value} (S : CallFix p m c cc nL s args Ts own) (hM : Met l y wds rm (jx_pre D tys As wc H.size) Qc 0 0 (va_A wc H.size)) (cw : va_CN R s args own index y host bytes maxL ret wds rm 0 0 n) (hst : (Cond.static y).before args s = true) (hK : va_K D vwCl tys s) (hN : jx_N s) (hP : va_P D vwCl ws H) (hD : va_D A ws) (isC : List Nat) (hC : isC.map (fun i => ws[i]?) = wc.map some) (hnd : va_nd isC = true)
    (hn : As.length = n) (hsize : ls.size = nL) (hstack : st0 = As.reverse ++ rest) (hW : (rest.map fun v => v.category).sum ≤ 8) (hdg : decode cc pc = .ok (.invokestatic index, 3)) (hf : cells + 0 ≤ R.cells ∧ slots + 0 ≤ R.slots) :
    va_Run p l e R s m args below meth c H locs cells slots 0 0 (F0 m pc ls st0) rest (Qc As.toArray) (va_A wc H.size) :=
  va_runSN S hM ⟨cw, hst, trivial⟩ ⟨jx_blind D tys _ wc H.size, jx_prep hK hN hP hD isC hC hnd _⟩ rfl hn hsize hstack (lv_room hW) hdg hf
theorem jx_ki {r : Int32} {av : Array Value} (hr : va_Run p l e R s m args below meth c H locs cells slots 0 0 (F0 m pc ls st0) rest (va_Qi (jx_qi r) (jx_B D tys wc' (va_A wc H.size)) (va_A wc H.size) av) (va_A wc H.size)) (hP : va_P D vwCl ws H) (hD : va_D A ws) (hS : va_S A H0 H locs) (hA : ∀ q, H0.size ≤ q → A q) (isC isR isO : List Nat) (hC : isC.map (fun i => ws[i]?) = wc.map some) (hR : isR.map (fun i => ws[i]?) = wr.map some) (hn : va_nd isR = true) (hdis : ∀ i ∈ isR, i ∉ isC) (hO : isO.map (fun i => (wr ++ wc')[i]?) = ws2.map some) (hOn : va_nd isO = true)
    (kk : ∀ (H1 : Heap) (locs1 : List Loc), va_P D vwCl ws2 H1 → va_D A ws2 → va_S A H0 H1 locs1 → W p l e R s m args below meth c H1 locs1 cells slots Q (F0 m (pc + 3) ls (.int r :: rest))) : W p l e R s m args below meth c H locs cells slots Q (F0 m pc ls st0) := by
  have hFc := va_free (wc := wc) hD hS hA isC hC
  refine va_calli hr hS (fun q _ h => hFc q h) hFc (fun r' u t H1 locs1 ht hvm hw hB hz1 hk1 hS1 => ?_)
  obtain ⟨hP1, hK1, hD1⟩ := hB
  rw [ht] at hP1
  obtain ⟨hP2, hD2⟩ := va_join (wr := wr) (w1 := wc') hP hD isC isR hC hR hn hdis hk1 hFc hP1 hD1
  have hw : r' = r := hw
  subst hw
  exact kk H1 locs1 (hP2.sub isO (jx_fm hO)) (hD2.sub isO hOn hO) hS1
theorem jx_kl {r : Int64} {av : Array Value} (hr : va_Run p l e R s m args below meth c H locs cells slots 0 0 (F0 m pc ls st0) rest (va_Ql (jx_ql r) (jx_B D tys wc' (va_A wc H.size)) (va_A wc H.size) av) (va_A wc H.size)) (hP : va_P D vwCl ws H) (hD : va_D A ws) (hS : va_S A H0 H locs) (hA : ∀ q, H0.size ≤ q → A q) (isC isR isO : List Nat) (hC : isC.map (fun i => ws[i]?) = wc.map some) (hR : isR.map (fun i => ws[i]?) = wr.map some) (hn : va_nd isR = true) (hdis : ∀ i ∈ isR, i ∉ isC) (hO : isO.map (fun i => (wr ++ wc')[i]?) = ws2.map some) (hOn : va_nd isO = true)
    (kk : ∀ (H1 : Heap) (locs1 : List Loc), va_P D vwCl ws2 H1 → va_D A ws2 → va_S A H0 H1 locs1 → W p l e R s m args below meth c H1 locs1 cells slots Q (F0 m (pc + 3) ls (.long r :: rest))) : W p l e R s m args below meth c H locs cells slots Q (F0 m pc ls st0) := by
  have hFc := va_free (wc := wc) hD hS hA isC hC
  refine va_calll hr hS (fun q _ h => hFc q h) hFc (fun r' u t H1 locs1 ht hvm hw hB hz1 hk1 hS1 => ?_)
  obtain ⟨hP1, hK1, hD1⟩ := hB
  rw [ht] at hP1
  obtain ⟨hP2, hD2⟩ := va_join (wr := wr) (w1 := wc') hP hD isC isR hC hR hn hdis hk1 hFc hP1 hD1
  have hw : r' = r := hw
  subst hw
  exact kk H1 locs1 (hP2.sub isO (jx_fm hO)) (hD2.sub isO hOn hO) hS1
theorem jx_kv {av : Array Value} (hr : va_Run p l e R s m args below meth c H locs cells slots 0 0 (F0 m pc ls st0) rest (va_Qv jx_qv (jx_B D tys wc' (va_A wc H.size)) (va_A wc H.size) av) (va_A wc H.size)) (hP : va_P D vwCl ws H) (hD : va_D A ws) (hS : va_S A H0 H locs) (hA : ∀ q, H0.size ≤ q → A q) (isC isR isO : List Nat) (hC : isC.map (fun i => ws[i]?) = wc.map some) (hR : isR.map (fun i => ws[i]?) = wr.map some) (hn : va_nd isR = true) (hdis : ∀ i ∈ isR, i ∉ isC) (hO : isO.map (fun i => (wr ++ wc')[i]?) = ws2.map some) (hOn : va_nd isO = true)
    (kk : ∀ (H1 : Heap) (locs1 : List Loc), va_P D vwCl ws2 H1 → va_D A ws2 → va_S A H0 H1 locs1 → W p l e R s m args below meth c H1 locs1 cells slots Q (F0 m (pc + 3) ls rest)) : W p l e R s m args below meth c H locs cells slots Q (F0 m pc ls st0) := by
  have hFc := va_free (wc := wc) hD hS hA isC hC
  refine va_callv hr hS (fun q _ h => hFc q h) hFc (fun u t H1 locs1 ht hvm hw hB hz1 hk1 hS1 => ?_)
  obtain ⟨hP1, hK1, hD1⟩ := hB
  rw [ht] at hP1
  obtain ⟨hP2, hD2⟩ := va_join (wr := wr) (w1 := wc') hP hD isC isR hC hR hn hdis hk1 hFc hP1 hD1
  exact kk H1 locs1 (hP2.sub isO (jx_fm hO)) (hD2.sub isO hOn hO) hS1
theorem jx_reti {v r0 : Int32} (hx : p.tables.exec = Jvm.exec) (hb : c.code = cc) (hr : meth.sig.returnType = some .int) (hlocks : meth.locks = false) (hv : v = r0) (hK : va_K D vwCl tys s) (hP : va_P D vwCl ws H) (hD : va_D A ws) (hS : va_S A s.heap H locs) (hdg : decode cc pc = .ok (.ireturn, 1)) : W p l e R s m args below meth c H locs cells slots (MQ below (va_Qi (jx_qi r0) (jx_B D tys ws A) A) args s cells slots A) (F0 m pc ls [.int v]) :=
  W.iret (v := v) hx hb hr (fun t ht hW => ⟨⟨v, (), rfl, hv, by rw [ht]; exact hP, va_K.moved hW.alike hK, hD⟩, hS.F ht⟩) hS.2.2 hdg
theorem jx_retz {v r0 : Int32} (hx : p.tables.exec = Jvm.exec) (hb : c.code = cc) (hr : meth.sig.returnType = some .boolean) (hlocks : meth.locks = false) (hz : narrow .boolean (.int v) = .int v) (hv : v = r0) (hK : va_K D vwCl tys s) (hP : va_P D vwCl ws H) (hD : va_D A ws) (hS : va_S A s.heap H locs) (hdg : decode cc pc = .ok (.ireturn, 1)) : W p l e R s m args below meth c H locs cells slots (MQ below (va_Qi (jx_qi r0) (jx_B D tys ws A) A) args s cells slots A) (F0 m pc ls [.int v]) :=
  W.zret (v := v) hx hb hr hz (fun t ht hW => ⟨⟨v, (), rfl, hv, by rw [ht]; exact hP, va_K.moved hW.alike hK, hD⟩, hS.F ht⟩) hS.2.2 hdg
theorem jx_retl {v r0 : Int64} (hx : p.tables.exec = Jvm.exec) (hb : c.code = cc) (hr : meth.sig.returnType = some .long) (hlocks : meth.locks = false) (hv : v = r0) (hK : va_K D vwCl tys s) (hP : va_P D vwCl ws H) (hD : va_D A ws) (hS : va_S A s.heap H locs) (hdg : decode cc pc = .ok (.lreturn, 1)) : W p l e R s m args below meth c H locs cells slots (MQ below (va_Ql (jx_ql r0) (jx_B D tys ws A) A) args s cells slots A) (F0 m pc ls [.long v]) :=
  W.lret (v := v) hx hb hr (fun t ht hW => ⟨⟨v, (), rfl, hv, by rw [ht]; exact hP, va_K.moved hW.alike hK, hD⟩, hS.F ht⟩) hS.2.2 hdg
theorem jx_retv (hx : p.tables.exec = Jvm.exec) (hb : c.code = cc) (hr : meth.sig.returnType = none) (hlocks : meth.locks = false) (hK : va_K D vwCl tys s) (hP : va_P D vwCl ws H) (hD : va_D A ws) (hS : va_S A s.heap H locs) (hdg : decode cc pc = .ok (.return_, 1)) : W p l e R s m args below meth c H locs cells slots (MQ below (va_Qv jx_qv (jx_B D tys ws A) A) args s cells slots A) (F0 m pc ls []) :=
  W.vret hx hb hr (fun t ht hW => ⟨⟨(), rfl, trivial, by rw [ht]; exact hP, va_K.moved hW.alike hK, hD⟩, hS.F ht⟩) hS.2.2 hdg
end JXC
theorem jx_nb {v : Int32} (h : decide (v = 0 ∨ v = 1) = true) : narrow .boolean (.int v) = .int v := by
  rcases of_decide_eq_true h with h | h <;> subst h <;> rfl
def jx_F : Nat := 4096
abbrev jx_Wi (p : Program) (l : Launch) (e : Env) (wds : List Cond) (rm : Room) (s : State) (m : MethodId) (av : List Value) (below : List Frame) (meth : Method) (c : Code) (D : va_G) (tys : List (ClassId × FieldType)) (r : Int32) (ws' : va_W) (A : Nat → Prop) (H : Heap) (locs : List Loc) (g : JFrame) : Prop := W p l e (headSpec wds rm).room s m av.toArray below meth c H locs 0 0 (MQ below (va_Qi (jx_qi r) (jx_B D tys ws' A) A) av.toArray s 0 0 A) g
abbrev jx_Wl (p : Program) (l : Launch) (e : Env) (wds : List Cond) (rm : Room) (s : State) (m : MethodId) (av : List Value) (below : List Frame) (meth : Method) (c : Code) (D : va_G) (tys : List (ClassId × FieldType)) (r : Int64) (ws' : va_W) (A : Nat → Prop) (H : Heap) (locs : List Loc) (g : JFrame) : Prop := W p l e (headSpec wds rm).room s m av.toArray below meth c H locs 0 0 (MQ below (va_Ql (jx_ql r) (jx_B D tys ws' A) A) av.toArray s 0 0 A) g
abbrev jx_Wv (p : Program) (l : Launch) (e : Env) (wds : List Cond) (rm : Room) (s : State) (m : MethodId) (av : List Value) (below : List Frame) (meth : Method) (c : Code) (D : va_G) (tys : List (ClassId × FieldType)) (ws' : va_W) (A : Nat → Prop) (H : Heap) (locs : List Loc) (g : JFrame) : Prop := W p l e (headSpec wds rm).room s m av.toArray below meth c H locs 0 0 (MQ below (va_Qv jx_qv (jx_B D tys ws' A) A) av.toArray s 0 0 A) g
end
section
/-! what the cells hold: by class, and all of them -/
abbrev wE (a : Nat → Nat) (cI cL : ClassId) : va_W := []
abbrev wPg (a : Nat → Nat) (cI cL : ClassId) (pl : Int32) (cd : (Nat → Int32)) : va_W := [((a 1), .inr (2, [.ref (a 2), .int pl])), ((a 2), .inl (cI, 24, .inl cd))]
abbrev wBk (a : Nat → Nat) (cI cL : ClassId) (bs : Int32) (br : (Nat → Int64)) : va_W := [((a 3), .inr (0, [.ref (a 4), .int bs])), ((a 4), .inl (cL, 8, .inr (.inl br)))]
abbrev wPt (a : Nat → Nat) (cI cL : ClassId) (un : (Nat → Int32)) (ow : (Nat → Int64)) (ki : (Nat → Int32)) (th : (Nat → Int64)) (cm : (Nat → Int64)) (tr : Int32) (tl : Int32) (ch : Int32) : va_W := [((a 5), .inr (3, [.ref (a 6), .ref (a 7), .ref (a 8), .ref (a 9), .ref (a 10), .int tr, .int tl, .int ch])), ((a 6), .inl (cI, 8, .inl un)), ((a 7), .inl (cL, 8, .inr (.inl ow))), ((a 8), .inl (cI, 64, .inl ki)), ((a 9), .inl (cL, 64, .inr (.inl th))), ((a 10), .inl (cL, 8, .inr (.inl cm)))]
abbrev wSp (a : Nat → Nat) (b : Nat) (cI cL : ClassId) (ow : (Nat → Int64)) (th : (Nat → Int64)) (tr : Int32) (tl : Int32) (ch : Int32) (ar : (Nat → Int64)) : va_W := [((a 5), .inr (3, [.ref (a 6), .ref (a 7), .ref (a 8), .ref (a 9), .ref (a 10), .int tr, .int tl, .int ch])), ((a 7), .inl (cL, 8, .inr (.inl ow))), ((a 9), .inl (cL, 64, .inr (.inl th))), (b, .inl (cL, 8, .inr (.inl ar)))]
abbrev wAr (a : Nat → Nat) (b : Nat) (cI cL : ClassId) (ar : (Nat → Int64)) : va_W := [(b, .inl (cL, 8, .inr (.inl ar)))]
abbrev wIa (a : Nat → Nat) (b : Nat) (cI cL : ClassId) (ia : (Nat → Int32)) : va_W := [(b, .inl (cI, 64, .inl ia))]
abbrev wWy (a : Nat → Nat) (cI cL : ClassId) (un : (Nat → Int32)) (ow : (Nat → Int64)) (ki : (Nat → Int32)) (th : (Nat → Int64)) (cm : (Nat → Int64)) (tr : Int32) (tl : Int32) (ch : Int32) (jl : (Nat → Int32)) : va_W := [((a 11), .inr (4, [.ref (a 5), .ref (a 12)])), ((a 12), .inl (cI, 8, .inl jl)), ((a 5), .inr (3, [.ref (a 6), .ref (a 7), .ref (a 8), .ref (a 9), .ref (a 10), .int tr, .int tl, .int ch])), ((a 6), .inl (cI, 8, .inl un)), ((a 7), .inl (cL, 8, .inr (.inl ow))), ((a 8), .inl (cI, 64, .inl ki)), ((a 9), .inl (cL, 64, .inr (.inl th))), ((a 10), .inl (cL, 8, .inr (.inl cm)))]
abbrev wCl (a : Nat → Nat) (cI cL : ClassId) (un : (Nat → Int32)) (ow : (Nat → Int64)) (ki : (Nat → Int32)) (th : (Nat → Int64)) (cm : (Nat → Int64)) (tr : Int32) (tl : Int32) (ch : Int32) (bz : (Nat → Int64)) (rw : (Nat → Int64)) (kf : Int32) : va_W := [((a 13), .inr (1, [.ref (a 5), .ref (a 14), .ref (a 15), .int kf])), ((a 14), .inl (cL, 256, .inr (.inl bz))), ((a 15), .inl (cL, 8, .inr (.inl rw))), ((a 5), .inr (3, [.ref (a 6), .ref (a 7), .ref (a 8), .ref (a 9), .ref (a 10), .int tr, .int tl, .int ch])), ((a 6), .inl (cI, 8, .inl un)), ((a 7), .inl (cL, 8, .inr (.inl ow))), ((a 8), .inl (cI, 64, .inl ki)), ((a 9), .inl (cL, 64, .inr (.inl th))), ((a 10), .inl (cL, 8, .inr (.inl cm)))]
abbrev wX (a : Nat → Nat) (cI cL : ClassId) (pl : Int32) (cd : (Nat → Int32)) (bs : Int32) (br : (Nat → Int64)) (un : (Nat → Int32)) (ow : (Nat → Int64)) (ki : (Nat → Int32)) (th : (Nat → Int64)) (cm : (Nat → Int64)) (tr : Int32) (tl : Int32) (ch : Int32) (jl : (Nat → Int32)) (bz : (Nat → Int64)) (rw : (Nat → Int64)) (kf : Int32) : va_W := [((a 0), .inr (5, [.ref (a 1), .ref (a 3), .ref (a 5), .ref (a 11), .ref (a 13)])), ((a 1), .inr (2, [.ref (a 2), .int pl])), ((a 2), .inl (cI, 24, .inl cd)), ((a 3), .inr (0, [.ref (a 4), .int bs])), ((a 4), .inl (cL, 8, .inr (.inl br))), ((a 5), .inr (3, [.ref (a 6), .ref (a 7), .ref (a 8), .ref (a 9), .ref (a 10), .int tr, .int tl, .int ch])), ((a 6), .inl (cI, 8, .inl un)), ((a 7), .inl (cL, 8, .inr (.inl ow))), ((a 8), .inl (cI, 64, .inl ki)), ((a 9), .inl (cL, 64, .inr (.inl th))), ((a 10), .inl (cL, 8, .inr (.inl cm))), ((a 11), .inr (4, [.ref (a 5), .ref (a 12)])), ((a 12), .inl (cI, 8, .inl jl)), ((a 13), .inr (1, [.ref (a 5), .ref (a 14), .ref (a 15), .int kf])), ((a 14), .inl (cL, 256, .inr (.inl bz))), ((a 15), .inl (cL, 8, .inr (.inl rw)))]
abbrev wM (a : Nat → Nat) (cI cL : ClassId) (nl : Int32) (np : (Nat → Int32)) (nt : Int32) (nr : (Nat → Int32)) (nh : Int32) (ns : (Nat → Int32)) (nk : (Nat → Int32)) (ne : Int32) (nw : Int32) (na : (Nat → Int32)) (nf : (Nat → Int32)) (nc : Int32) (ng : (Nat → Int32)) (nx : Int64) : va_W := [((a 0), .inr (6, [.int nl, .ref (a 1), .int nt, .ref (a 2), .int nh, .ref (a 3), .ref (a 4), .int ne, .int nw, .ref (a 5), .ref (a 6), .int nc, .ref (a 7), .long nx])), ((a 1), .inl (cI, 24, .inl np)), ((a 2), .inl (cI, 108, .inl nr)), ((a 3), .inl (cI, 8, .inl ns)), ((a 4), .inl (cI, 64, .inl nk)), ((a 5), .inl (cI, 8, .inl na)), ((a 6), .inl (cI, 8, .inl nf)), ((a 7), .inl (cI, 48, .inl ng))]
theorem jx_sw2 (x : Int32) (h0 : ¬ x = 0) (h1 : ¬ x = 1) (h2 : ¬ x = 2) : x.toInt < 0 ∨ 2 < x.toInt := by
  have e0 : x.toInt ≠ 0 := fun h => h0 (Int32.toInt_inj.mp (h.trans (by decide)))
  have e1 : x.toInt ≠ 1 := fun h => h1 (Int32.toInt_inj.mp (h.trans (by decide)))
  have e2 : x.toInt ≠ 2 := fun h => h2 (Int32.toInt_inj.mp (h.trans (by decide)))
  omega
theorem jx_sw6 (x : Int32) (h0 : ¬ x = 0) (h1 : ¬ x = 1) (h2 : ¬ x = 2) (h3 : ¬ x = 3) (h4 : ¬ x = 4) (h5 : ¬ x = 5) (h6 : ¬ x = 6) : x.toInt < 0 ∨ 6 < x.toInt := by
  have e0 : x.toInt ≠ 0 := fun h => h0 (Int32.toInt_inj.mp (h.trans (by decide)))
  have e1 : x.toInt ≠ 1 := fun h => h1 (Int32.toInt_inj.mp (h.trans (by decide)))
  have e2 : x.toInt ≠ 2 := fun h => h2 (Int32.toInt_inj.mp (h.trans (by decide)))
  have e3 : x.toInt ≠ 3 := fun h => h3 (Int32.toInt_inj.mp (h.trans (by decide)))
  have e4 : x.toInt ≠ 4 := fun h => h4 (Int32.toInt_inj.mp (h.trans (by decide)))
  have e5 : x.toInt ≠ 5 := fun h => h5 (Int32.toInt_inj.mp (h.trans (by decide)))
  have e6 : x.toInt ≠ 6 := fun h => h6 (Int32.toInt_inj.mp (h.trans (by decide)))
  omega
theorem jx_sw7 (x : Int32) (h0 : ¬ x = 0) (h1 : ¬ x = 1) (h2 : ¬ x = 2) (h3 : ¬ x = 3) (h4 : ¬ x = 4) (h5 : ¬ x = 5) (h6 : ¬ x = 6) (h7 : ¬ x = 7) : x.toInt < 0 ∨ 7 < x.toInt := by
  have e0 : x.toInt ≠ 0 := fun h => h0 (Int32.toInt_inj.mp (h.trans (by decide)))
  have e1 : x.toInt ≠ 1 := fun h => h1 (Int32.toInt_inj.mp (h.trans (by decide)))
  have e2 : x.toInt ≠ 2 := fun h => h2 (Int32.toInt_inj.mp (h.trans (by decide)))
  have e3 : x.toInt ≠ 3 := fun h => h3 (Int32.toInt_inj.mp (h.trans (by decide)))
  have e4 : x.toInt ≠ 4 := fun h => h4 (Int32.toInt_inj.mp (h.trans (by decide)))
  have e5 : x.toInt ≠ 5 := fun h => h5 (Int32.toInt_inj.mp (h.trans (by decide)))
  have e6 : x.toInt ≠ 6 := fun h => h6 (Int32.toInt_inj.mp (h.trans (by decide)))
  have e7 : x.toInt ≠ 7 := fun h => h7 (Int32.toInt_inj.mp (h.trans (by decide)))
  omega
theorem jx_sw18 (x : Int32) (h0 : ¬ x = 0) (h1 : ¬ x = 1) (h2 : ¬ x = 2) (h3 : ¬ x = 3) (h4 : ¬ x = 4) (h5 : ¬ x = 5) (h6 : ¬ x = 6) (h7 : ¬ x = 7) (h8 : ¬ x = 8) (h9 : ¬ x = 9) (h10 : ¬ x = 10) (h11 : ¬ x = 11) (h12 : ¬ x = 12) (h13 : ¬ x = 13) (h14 : ¬ x = 14) (h15 : ¬ x = 15) (h16 : ¬ x = 16) (h17 : ¬ x = 17) (h18 : ¬ x = 18) : x.toInt < 0 ∨ 18 < x.toInt := by
  have e0 : x.toInt ≠ 0 := fun h => h0 (Int32.toInt_inj.mp (h.trans (by decide)))
  have e1 : x.toInt ≠ 1 := fun h => h1 (Int32.toInt_inj.mp (h.trans (by decide)))
  have e2 : x.toInt ≠ 2 := fun h => h2 (Int32.toInt_inj.mp (h.trans (by decide)))
  have e3 : x.toInt ≠ 3 := fun h => h3 (Int32.toInt_inj.mp (h.trans (by decide)))
  have e4 : x.toInt ≠ 4 := fun h => h4 (Int32.toInt_inj.mp (h.trans (by decide)))
  have e5 : x.toInt ≠ 5 := fun h => h5 (Int32.toInt_inj.mp (h.trans (by decide)))
  have e6 : x.toInt ≠ 6 := fun h => h6 (Int32.toInt_inj.mp (h.trans (by decide)))
  have e7 : x.toInt ≠ 7 := fun h => h7 (Int32.toInt_inj.mp (h.trans (by decide)))
  have e8 : x.toInt ≠ 8 := fun h => h8 (Int32.toInt_inj.mp (h.trans (by decide)))
  have e9 : x.toInt ≠ 9 := fun h => h9 (Int32.toInt_inj.mp (h.trans (by decide)))
  have e10 : x.toInt ≠ 10 := fun h => h10 (Int32.toInt_inj.mp (h.trans (by decide)))
  have e11 : x.toInt ≠ 11 := fun h => h11 (Int32.toInt_inj.mp (h.trans (by decide)))
  have e12 : x.toInt ≠ 12 := fun h => h12 (Int32.toInt_inj.mp (h.trans (by decide)))
  have e13 : x.toInt ≠ 13 := fun h => h13 (Int32.toInt_inj.mp (h.trans (by decide)))
  have e14 : x.toInt ≠ 14 := fun h => h14 (Int32.toInt_inj.mp (h.trans (by decide)))
  have e15 : x.toInt ≠ 15 := fun h => h15 (Int32.toInt_inj.mp (h.trans (by decide)))
  have e16 : x.toInt ≠ 16 := fun h => h16 (Int32.toInt_inj.mp (h.trans (by decide)))
  have e17 : x.toInt ≠ 17 := fun h => h17 (Int32.toInt_inj.mp (h.trans (by decide)))
  have e18 : x.toInt ≠ 18 := fun h => h18 (Int32.toInt_inj.mp (h.trans (by decide)))
  omega
end
section
/-! the pure words of every method, laid by the generator out of the bytecode -/
def pf_J13_bitCount_95d88 (p0 : Int64) : Option Int32 :=
  (some (p0 - ((((p0).toUInt64 >>> (((1 : Int32)).toInt64.toUInt64 &&& Int64.toUInt64 63)).toInt64) &&& (6148914691236517205 : Int64)))).bind fun v1 => (some ((v1 &&& (3689348814741910323 : Int64)) + ((((v1).toUInt64 >>> (((2 : Int32)).toInt64.toUInt64 &&& Int64.toUInt64 63)).toInt64) &&& (3689348814741910323 : Int64)))).bind fun v2 => (some ((v2 + (((v2).toUInt64 >>> (((4 : Int32)).toInt64.toUInt64 &&& Int64.toUInt64 63)).toInt64)) &&& (1085102592571150095 : Int64))).bind fun v3 => (some ((v3 + (((v3).toUInt64 >>> (((8 : Int32)).toInt64.toUInt64 &&& Int64.toUInt64 63)).toInt64)) + ((((v3 + (((v3).toUInt64 >>> (((8 : Int32)).toInt64.toUInt64 &&& Int64.toUInt64 63)).toInt64))).toUInt64 >>> (((16 : Int32)).toInt64.toUInt64 &&& Int64.toUInt64 63)).toInt64))).bind fun v4 => some (((v4 + (((v4).toUInt64 >>> (((32 : Int32)).toInt64.toUInt64 &&& Int64.toUInt64 63)).toInt64))).toInt32 &&& (127 : Int32))
def pf_J6_bitCount_0f7a4 (p0 : Int32) : Option Int32 :=
  (some (p0 - ((((p0).toUInt32 >>> (((1 : Int32)).toUInt32 &&& Int32.toUInt32 31)).toInt32) &&& (1431655765 : Int32)))).bind fun v1 => (some ((v1 &&& (858993459 : Int32)) + ((((v1).toUInt32 >>> (((2 : Int32)).toUInt32 &&& Int32.toUInt32 31)).toInt32) &&& (858993459 : Int32)))).bind fun v2 => (some ((v2 + (((v2).toUInt32 >>> (((4 : Int32)).toUInt32 &&& Int32.toUInt32 31)).toInt32)) &&& (252645135 : Int32))).bind fun v3 => (some ((v3 + (((v3).toUInt32 >>> (((8 : Int32)).toUInt32 &&& Int32.toUInt32 31)).toInt32)) + ((((v3 + (((v3).toUInt32 >>> (((8 : Int32)).toUInt32 &&& Int32.toUInt32 31)).toInt32))).toUInt32 >>> (((16 : Int32)).toUInt32 &&& Int32.toUInt32 31)).toInt32))).bind fun v4 => some (v4 &&& (63 : Int32))
def pf_X0_find_s1 (bs : Int32) (br : (Nat → Int64)) (p0 : Int64) : Int32 → Option (Int32 ⊕ (Unit ⊕ Int32)) := fun s1 =>
  (if bs ≤ s1 then some (.inr (.inl ())) else (jx_gd (jx_in s1 8)).bind fun _ => (if ¬ (lg_cmp (br (s1).toNatClampNeg) p0) = 0 then some (.inl (s1 + (1 : Int32))) else some (.inr (.inr s1))))
def pf_X0_find (bs : Int32) (br : (Nat → Int64)) (p0 : Int64) : Option Int32 :=
  (jx_iter (pf_X0_find_s1 bs br p0) jx_F (0 : Int32)).bind fun k2 => Sum.elim (fun xk2 => some (-1 : Int32)) (fun y => some y) k2
def pf_X0_has (bs : Int32) (p0 : Int32) : Option Int32 :=
  (if p0 < 0 then some (0 : Int32) else (if bs ≤ p0 then some (0 : Int32) else some (1 : Int32)))
def pf_X0_numberFor (bs : Int32) (br : (Nat → Int64)) (p0 : Int64) : Option (Int32 × Int32 × (Nat → Int64)) :=
  (pf_X0_find bs br p0).bind fun r1 => (if ¬ r1 = (-1 : Int32) then some (r1, bs, br) else (if bs < (8 : Int32) then (jx_gd (jx_in bs 8)).bind fun _ => some (((bs + (1 : Int32)) - (1 : Int32)), (bs + (1 : Int32)), (vp_updL br (bs).toNatClampNeg p0)) else some (r1, bs, br)))
def pf_X4_itemsIn (p0 : Int64) : Option Int32 :=
  some ((((p0 ||| (p0 >>> (((12 : Int32)).toInt64 &&& 63))) ||| (p0 >>> (((24 : Int32)).toInt64 &&& 63)))).toInt32 &&& (4095 : Int32))
def pf_X4_meeting (p0 : Int64) : Option Int32 :=
  (pf_X4_itemsIn p0).bind fun r1 => some (r1 &&& (r1 >>> ((6 : Int32) &&& 31)))
def pf_X1_meetings_s1 (ar : (Nat → Int64)) : (Int64 × Int32) → Option ((Int64 × Int32) ⊕ Int64) := fun s1 =>
  (if (8 : Int32) ≤ s1.2 then some (.inr s1.1) else (jx_gd (jx_in s1.2 8)).bind fun _ => (pf_X4_meeting (ar (s1.2).toNatClampNeg)).bind fun r4 => some (.inl ((s1.1 ||| ((r4).toInt64 <<< (((s1.2 * (6 : Int32))).toInt64 &&& 63))), (s1.2 + (1 : Int32)))))
def pf_X1_meetings (ar : (Nat → Int64)) : Option Int64 :=
  (jx_iter (pf_X1_meetings_s1 ar) jx_F ((0 : Int64), (0 : Int32))).bind fun k2 => some k2
def pf_X1_now (cm : (Nat → Int64)) : Option Int64 :=
  (pf_X1_meetings cm).bind fun r1 => some r1
def pf_X6_isSet (p0 : Int64) (p1 : Int32) : Option Int32 :=
  (if (lg_cmp ((p0 >>> ((p1).toInt64 &&& 63)) &&& (1 : Int64)) (0 : Int64)) = 0 then some (0 : Int32) else some (1 : Int32))
def pf_X1_at_s1 (p0 : Int32) (r1 : Int64) : (Int32 × Int32) → Option ((Int32 × Int32) ⊕ (Unit ⊕ Int32)) := fun s2 =>
  (if (48 : Int32) ≤ s2.2 then some (.inr (.inl ())) else (pf_X6_isSet r1 s2.2).bind fun r5 => (if r5 = 0 then some (.inl (s2.1, (s2.2 + (1 : Int32)))) else (if ¬ s2.1 = p0 then some (.inl ((s2.1 + (1 : Int32)), (s2.2 + (1 : Int32)))) else some (.inr (.inr s2.2)))))
def pf_X1_at (cm : (Nat → Int64)) (p0 : Int32) : Option Int32 :=
  (pf_X1_now cm).bind fun r1 => (jx_iter (pf_X1_at_s1 p0 r1) jx_F ((0 : Int32), (0 : Int32))).bind fun k3 => Sum.elim (fun xk3 => some (-1 : Int32)) (fun y => some y) k3
def pf_X3_getsMore_s1 (th : (Nat → Int64)) (ar : (Nat → Int64)) (p0 : Int32) : (Int64 × Int32) → Option ((Int64 × Int32) ⊕ Int64) := fun s1 =>
  (if (8 : Int32) ≤ s1.2 then some (.inr s1.1) else (jx_gd (jx_in s1.2 8)).bind fun _ => (jx_gd (jx_in ((p0 * (8 : Int32)) + s1.2) 64)).bind fun _ => some (.inl ((s1.1 ||| ((ar (s1.2).toNatClampNeg) &&& (th (((p0 * (8 : Int32)) + s1.2)).toNatClampNeg))), (s1.2 + (1 : Int32)))))
def pf_X3_getsMore (th : (Nat → Int64)) (ar : (Nat → Int64)) (p0 : Int32) : Option (Int32 × (Nat → Int64)) :=
  (jx_gd (jx_in p0 8)).bind fun _ => (jx_iter (pf_X3_getsMore_s1 th ar p0) jx_F ((ar (p0).toNatClampNeg), (0 : Int32))).bind fun k2 => (jx_gd (jx_in p0 8)).bind fun _ => (if (lg_cmp k2 (ar (p0).toNatClampNeg)) = 0 then some ((0 : Int32), (vp_updL ar (p0).toNatClampNeg k2)) else some ((1 : Int32), (vp_updL ar (p0).toNatClampNeg k2)))
def pf_X3_spread_s1 (ow : (Nat → Int64)) (p0 : Int32) : (Int32 × (Nat → Int64)) → Option ((Int32 × (Nat → Int64)) ⊕ (Nat → Int64)) := fun s1 =>
  (if (8 : Int32) ≤ s1.1 then some (.inr s1.2) else (pf_X6_isSet (p0).toInt64 s1.1).bind fun r4 => ((if r4 = 0 then some (0 : Int64) else (jx_gd (jx_in s1.1 8)).bind fun _ => some (ow (s1.1).toNatClampNeg)) : Option Int64).bind fun j5 => (jx_gd (jx_in s1.1 8)).bind fun _ => some (.inl ((s1.1 + (1 : Int32)), (vp_updL s1.2 (s1.1).toNatClampNeg j5))))
def pf_X3_spread_s3 (th : (Nat → Int64)) (p0 : Int32) : (Int32 × Int32 × (Nat → Int64)) → Option ((Int32 × Int32 × (Nat → Int64)) ⊕ (Int32 × (Nat → Int64))) := fun s9 =>
  (if (8 : Int32) ≤ s9.2.1 then some (.inr (s9.1, s9.2.2)) else (pf_X6_isSet (p0).toInt64 s9.2.1).bind fun r12 => ((if r12 = 0 then some (s9.1, s9.2.2) else (pf_X3_getsMore th s9.2.2 s9.2.1).bind fun r14 => (if r14.1 = 0 then some (s9.1, r14.2) else some ((1 : Int32), r14.2))) : Option (Int32 × (Nat → Int64))).bind fun j13 => some (.inl (j13.1, (s9.2.1 + (1 : Int32)), j13.2)))
def pf_X3_spread_s2 (th : (Nat → Int64)) (p0 : Int32) : (Int32 × Int32 × (Nat → Int64)) → Option ((Int32 × Int32 × (Nat → Int64)) ⊕ (Nat → Int64)) := fun s6 =>
  (if s6.1 = 0 then some (.inr s6.2.2) else (if (8 : Int32) ≤ s6.2.1 then some (.inr s6.2.2) else (jx_iter (pf_X3_spread_s3 th p0) jx_F ((0 : Int32), (0 : Int32), s6.2.2)).bind fun k10 => some (.inl (k10.1, (s6.2.1 + (1 : Int32)), k10.2))))
def pf_X3_spread (ow : (Nat → Int64)) (th : (Nat → Int64)) (ar : (Nat → Int64)) (p0 : Int32) : Option (Nat → Int64) :=
  (jx_iter (pf_X3_spread_s1 ow p0) jx_F ((0 : Int32), ar)).bind fun k2 => (jx_iter (pf_X3_spread_s2 th p0) jx_F ((1 : Int32), (0 : Int32), k2)).bind fun k7 => some k7
def pf_X1_keepAll_s1 (ow : (Nat → Int64)) (th : (Nat → Int64)) (tr : Int32) : (Int32 × (Nat → Int64) × (Nat → Int64)) → Option ((Int32 × (Nat → Int64) × (Nat → Int64)) ⊕ ((Nat → Int64) × (Nat → Int64))) := fun s1 =>
  (if (256 : Int32) ≤ s1.1 then some (.inr (s1.2.1, s1.2.2)) else ((if ¬ (s1.1 &&& (tr ^^^ (-1 : Int32))) = 0 then some (s1.2.1, s1.2.2) else (pf_X3_spread ow th s1.2.2 s1.1).bind fun r5 => (pf_X1_meetings r5).bind fun r6 => (jx_gd (jx_in s1.1 256)).bind fun _ => some ((vp_updL s1.2.1 (s1.1).toNatClampNeg r6), r5)) : Option ((Nat → Int64) × (Nat → Int64))).bind fun j4 => some (.inl ((s1.1 + (1 : Int32)), j4.1, j4.2)))
def pf_X1_keepAll (ow : (Nat → Int64)) (th : (Nat → Int64)) (tr : Int32) (ch : Int32) (bz : (Nat → Int64)) (rw : (Nat → Int64)) (kf : Int32) : Option ((Nat → Int64) × (Nat → Int64) × Int32) :=
  (if ¬ kf = ch then (jx_iter (pf_X1_keepAll_s1 ow th tr) jx_F ((0 : Int32), bz, rw)).bind fun k2 => some (k2.1, k2.2, ch) else some (bz, rw, kf))
def pf_X1_isFewer (tr : Int32) (p0 : Int32) (p1 : Int32) : Option Int32 :=
  (if ¬ (p0 &&& (tr ^^^ (-1 : Int32))) = 0 then some (0 : Int32) else (pf_J6_bitCount_0f7a4 p0).bind fun r1 => (pf_J6_bitCount_0f7a4 p1).bind fun r2 => (if r2 ≤ r1 then some (0 : Int32) else some (1 : Int32)))
def pf_X1_fewestFor_s1 (tr : Int32) (p0 : Int32) (r3 : ((Nat → Int64) × (Nat → Int64) × Int32)) : (Int32 × Int32) → Option ((Int32 × Int32) ⊕ Int32) := fun s4 =>
  (if (256 : Int32) ≤ s4.2 then some (.inr s4.1) else (jx_gd (jx_in s4.2 256)).bind fun _ => (pf_X6_isSet (r3.1 (s4.2).toNatClampNeg) p0).bind fun r7 => ((if r7 = 0 then some s4.1 else (pf_X1_isFewer tr s4.2 s4.1).bind fun r9 => (if r9 = 0 then some s4.1 else some s4.2)) : Option Int32).bind fun j8 => some (.inl (j8, (s4.2 + (1 : Int32)))))
def pf_X1_fewestFor (ow : (Nat → Int64)) (th : (Nat → Int64)) (cm : (Nat → Int64)) (tr : Int32) (ch : Int32) (bz : (Nat → Int64)) (rw : (Nat → Int64)) (kf : Int32) (p0 : Int32) : Option (Int32 × (Nat → Int64) × (Nat → Int64) × Int32) :=
  (pf_X1_now cm).bind fun r1 => (pf_X6_isSet r1 p0).bind fun r2 => (if ¬ r2 = 0 then (pf_X1_keepAll ow th tr ch bz rw kf).bind fun r3 => (jx_iter (pf_X1_fewestFor_s1 tr p0 r3) jx_F (tr, (0 : Int32))).bind fun k5 => some (k5, r3.1, r3.2.1, r3.2.2) else some ((-1 : Int32), bz, rw, kf))
def pf_X1_fewestToLeave_s1 (tr : Int32) (r2 : ((Nat → Int64) × (Nat → Int64) × Int32)) : (Int32 × Int32) → Option ((Int32 × Int32) ⊕ Int32) := fun s3 =>
  (if (256 : Int32) ≤ s3.2 then some (.inr s3.1) else (jx_gd (jx_in (tr &&& (s3.2 ^^^ (-1 : Int32))) 256)).bind fun _ => ((if ¬ (lg_cmp (r2.1 ((tr &&& (s3.2 ^^^ (-1 : Int32)))).toNatClampNeg) (0 : Int64)) = 0 then some s3.1 else (pf_X1_isFewer tr s3.2 s3.1).bind fun r7 => (if r7 = 0 then some s3.1 else some s3.2)) : Option Int32).bind fun j6 => some (.inl (j6, (s3.2 + (1 : Int32)))))
def pf_X1_fewestToLeave (ow : (Nat → Int64)) (th : (Nat → Int64)) (cm : (Nat → Int64)) (tr : Int32) (ch : Int32) (bz : (Nat → Int64)) (rw : (Nat → Int64)) (kf : Int32) : Option (Int32 × (Nat → Int64) × (Nat → Int64) × Int32) :=
  (pf_X1_now cm).bind fun r1 => (if ¬ (lg_cmp r1 (0 : Int64)) = 0 then (pf_X1_keepAll ow th tr ch bz rw kf).bind fun r2 => (jx_iter (pf_X1_fewestToLeave_s1 tr r2) jx_F (tr, (0 : Int32))).bind fun k4 => some (k4, r2.1, r2.2.1, r2.2.2) else some ((0 : Int32), bz, rw, kf))
def pf_X1_partsNow_s1 (cm : (Nat → Int64)) : (Int32 × Int32) → Option ((Int32 × Int32) ⊕ Int32) := fun s1 =>
  (if (8 : Int32) ≤ s1.2 then some (.inr s1.1) else (jx_gd (jx_in s1.2 8)).bind fun _ => (pf_X4_meeting (cm (s1.2).toNatClampNeg)).bind fun r4 => ((if r4 = 0 then some (0 : Int32) else some (1 : Int32)) : Option Int32).bind fun j5 => some (.inl ((s1.1 + j5), (s1.2 + (1 : Int32)))))
def pf_X1_partsNow (cm : (Nat → Int64)) : Option Int32 :=
  (jx_iter (pf_X1_partsNow_s1 cm) jx_F ((0 : Int32), (0 : Int32))).bind fun k2 => some k2
def pf_X2_itemOf (p0 : Int32) : Option Int32 :=
  (if p0 < (112 : Int32) then (if p0 < (80 : Int32) then some (-1 : Int32) else (if (85 : Int32) < p0 then some (-1 : Int32) else some ((p0 - (80 : Int32)) + (6 : Int32)))) else (if (117 : Int32) < p0 then (if p0 < (80 : Int32) then some (-1 : Int32) else (if (85 : Int32) < p0 then some (-1 : Int32) else some ((p0 - (80 : Int32)) + (6 : Int32)))) else some (p0 - (112 : Int32))))
def pf_X2_reachOf (p0 : Int32) : Option Int32 :=
  (if ¬ p0 = (43 : Int32) then (if ¬ p0 = (42 : Int32) then some (1 : Int32) else some (3 : Int32)) else some (2 : Int32))
def pf_X2_firstFault_s1 (pl : Int32) (cd : (Nat → Int32)) : (Int32 × Int32 × Int32) → Option ((Int32 × Int32 × Int32) ⊕ (Unit ⊕ Int32)) := fun s1 =>
  (if pl ≤ s1.2.2 then some (.inr (.inl ())) else (jx_gd (jx_in s1.2.2 24)).bind fun _ => (pf_X2_itemOf (cd (s1.2.2).toNatClampNeg)).bind fun r4 => ((if ¬ r4 = (-1 : Int32) then (pf_X6_isSet (s1.1).toInt64 r4).bind fun r6 => (if ¬ r6 = 0 then some (0 : Int32) else some (1 : Int32)) else (if s1.2.1 = 0 then some (0 : Int32) else (jx_gd (jx_in s1.2.2 24)).bind fun _ => (pf_X2_reachOf (cd (s1.2.2).toNatClampNeg)).bind fun r7 => (if r7 = (1 : Int32) then some (0 : Int32) else some (1 : Int32)))) : Option Int32).bind fun j5 => (if ¬ j5 = 0 then ((if r4 = (-1 : Int32) then some (0 : Int32) else some (1 : Int32)) : Option Int32).bind fun j8 => ((if j8 = 0 then some (0 : Int32) else some ((1 : Int32) <<< (r4 &&& 31))) : Option Int32).bind fun j9 => some (.inl ((s1.1 ||| j9), j8, (s1.2.2 + (1 : Int32)))) else some (.inr (.inr s1.2.2))))
def pf_X2_firstFault (pl : Int32) (cd : (Nat → Int32)) : Option Int32 :=
  (jx_iter (pf_X2_firstFault_s1 pl cd) jx_F ((0 : Int32), (0 : Int32), (0 : Int32))).bind fun k2 => Sum.elim (fun xk2 => some pl) (fun y => some y) k2
def pf_X4_rowsFor_s1 (p0 : Int32) (p1 : Int32) : (Int64 × Int32) → Option ((Int64 × Int32) ⊕ Int64) := fun s1 =>
  (if p1 ≤ s1.2 then some (.inr s1.1) else some (.inl ((s1.1 ||| ((1 : Int64) <<< ((((s1.2 * (12 : Int32)) + p0)).toInt64 &&& 63))), (s1.2 + (1 : Int32)))))
def pf_X4_rowsFor (p0 : Int32) (p1 : Int32) : Option Int64 :=
  (jx_iter (pf_X4_rowsFor_s1 p0 p1) jx_F ((0 : Int64), (0 : Int32))).bind fun k2 => some k2
def pf_X2_meaning_s1 (pl : Int32) (cd : (Nat → Int32)) : (Int64 × Int32) → Option ((Int64 × Int32) ⊕ Int64) := fun s1 =>
  (if pl ≤ s1.2 then some (.inr s1.1) else (jx_gd (jx_in s1.2 24)).bind fun _ => (pf_X2_itemOf (cd (s1.2).toNatClampNeg)).bind fun r4 => ((if r4 = (-1 : Int32) then some s1.1 else ((if pl ≤ (s1.2 + (1 : Int32)) then some (1 : Int32) else (jx_gd (jx_in (s1.2 + (1 : Int32)) 24)).bind fun _ => (pf_X2_reachOf (cd ((s1.2 + (1 : Int32))).toNatClampNeg)).bind fun r7 => some r7) : Option Int32).bind fun j6 => (pf_X4_rowsFor r4 j6).bind fun r8 => some (s1.1 ||| r8)) : Option Int64).bind fun j5 => some (.inl (j5, (s1.2 + (1 : Int32)))))
def pf_X2_meaning (pl : Int32) (cd : (Nat → Int32)) : Option Int64 :=
  (jx_iter (pf_X2_meaning_s1 pl cd) jx_F ((0 : Int64), (0 : Int32))).bind fun k2 => some k2
def pf_X2_wipe (pl : Int32) : Option (Int32 × Int32) :=
  some (pl, (0 : Int32))
def pf_X2_write (pl : Int32) (cd : (Nat → Int32)) (p0 : Int32) : Option (Int32 × Int32 × (Nat → Int32)) :=
  ((if (24 : Int32) ≤ pl then some (pl, cd) else (jx_gd (jx_in pl 24)).bind fun _ => some ((pl + (1 : Int32)), (upd cd (pl).toNatClampNeg p0))) : Option (Int32 × (Nat → Int32))).bind fun j1 => some (j1.1, j1.1, j1.2)
def pf_X3_has (tr : Int32) (p0 : Int32) : Option Int32 :=
  (if p0 < 0 then some (0 : Int32) else (if (8 : Int32) ≤ p0 then some (0 : Int32) else (pf_X6_isSet (tr).toInt64 p0).bind fun r1 => (if r1 = 0 then some (0 : Int32) else some (1 : Int32))))
def pf_X3_kindOf (ki : (Nat → Int32)) (p0 : Int32) (p1 : Int32) : Option Int32 :=
  (jx_gd (jx_in ((p0 * (8 : Int32)) + p1) 64)).bind fun _ => some (ki (((p0 * (8 : Int32)) + p1)).toNatClampNeg)
def pf_X3_joinsFrom_s1 (ki : (Nat → Int32)) (p0 : Int32) : (Int32 × Int32) → Option ((Int32 × Int32) ⊕ Int32) := fun s1 =>
  (if (8 : Int32) ≤ s1.2 then some (.inr s1.1) else (pf_X3_kindOf ki p0 s1.2).bind fun r4 => ((if ¬ r4 = (-1 : Int32) then some (1 : Int32) else some (0 : Int32)) : Option Int32).bind fun j5 => some (.inl ((s1.1 + j5), (s1.2 + (1 : Int32)))))
def pf_X3_joinsFrom (ki : (Nat → Int32)) (p0 : Int32) : Option Int32 :=
  (jx_iter (pf_X3_joinsFrom_s1 ki p0) jx_F ((0 : Int32), (0 : Int32))).bind fun k2 => some k2
def pf_X3_joins_s1 (ki : (Nat → Int32)) : (Int32 × Int32) → Option ((Int32 × Int32) ⊕ Int32) := fun s1 =>
  (if (8 : Int32) ≤ s1.2 then some (.inr s1.1) else (pf_X3_joinsFrom ki s1.2).bind fun r4 => some (.inl ((s1.1 + r4), (s1.2 + (1 : Int32)))))
def pf_X3_joins (ki : (Nat → Int32)) : Option Int32 :=
  (jx_iter (pf_X3_joins_s1 ki) jx_F ((0 : Int32), (0 : Int32))).bind fun k2 => some k2
def pf_X3_joinsTo_s1 (ki : (Nat → Int32)) (p0 : Int32) : (Int32 × Int32) → Option ((Int32 × Int32) ⊕ Int32) := fun s1 =>
  (if (8 : Int32) ≤ s1.2 then some (.inr s1.1) else (pf_X3_kindOf ki s1.2 p0).bind fun r4 => ((if ¬ r4 = (-1 : Int32) then some (1 : Int32) else some (0 : Int32)) : Option Int32).bind fun j5 => some (.inl ((s1.1 + j5), (s1.2 + (1 : Int32)))))
def pf_X3_joinsTo (ki : (Nat → Int32)) (p0 : Int32) : Option Int32 :=
  (jx_iter (pf_X3_joinsTo_s1 ki p0) jx_F ((0 : Int32), (0 : Int32))).bind fun k2 => some k2
def pf_X3_leastFree_s1 (tr : Int32) : Int32 → Option (Int32 ⊕ (Unit ⊕ Int32)) := fun s1 =>
  (if (8 : Int32) ≤ s1 then some (.inr (.inl ())) else (pf_X3_has tr s1).bind fun r4 => (if ¬ r4 = 0 then some (.inl (s1 + (1 : Int32))) else some (.inr (.inr s1))))
def pf_X3_leastFree (tr : Int32) : Option Int32 :=
  (jx_iter (pf_X3_leastFree_s1 tr) jx_F (0 : Int32)).bind fun k2 => Sum.elim (fun xk2 => some (-1 : Int32)) (fun y => some y) k2
def pf_X3_lets (ki : (Nat → Int32)) (p0 : Int32) (p1 : Int32) (p2 : Int32) : Option Int32 :=
  (pf_X3_kindOf ki p0 p1).bind fun r1 => (if r1 = (-1 : Int32) then some (0 : Int32) else (if p2 ≤ r1 then some (0 : Int32) else some (1 : Int32)))
def pf_X3_namedBy_s1 (ki : (Nat → Int32)) (p0 : Int32) : (Int32 × Int32) → Option ((Int32 × Int32) ⊕ Int32) := fun s1 =>
  (if (8 : Int32) ≤ s1.2 then some (.inr s1.1) else (pf_X3_kindOf ki p0 s1.2).bind fun r4 => ((if r4 = (-1 : Int32) then some (0 : Int32) else (if (1 : Int32) < r4 then some (0 : Int32) else some ((1 : Int32) <<< (s1.2 &&& 31)))) : Option Int32).bind fun j5 => some (.inl ((s1.1 ||| j5), (s1.2 + (1 : Int32)))))
def pf_X3_namedBy (ki : (Nat → Int32)) (p0 : Int32) : Option Int32 :=
  (jx_iter (pf_X3_namedBy_s1 ki p0) jx_F ((0 : Int32), (0 : Int32))).bind fun k2 => some k2
def pf_X3_namesOf_s2 (ki : (Nat → Int32)) : (Int32 × Int32) → Option ((Int32 × Int32) ⊕ Int32) := fun s4 =>
  (if (8 : Int32) ≤ s4.2 then some (.inr s4.1) else (pf_X6_isSet (s4.1).toInt64 s4.2).bind fun r7 => ((if r7 = 0 then some (0 : Int32) else (pf_X3_namedBy ki s4.2).bind fun r9 => some r9) : Option Int32).bind fun j8 => some (.inl ((s4.1 ||| j8), (s4.2 + (1 : Int32)))))
def pf_X3_namesOf_s1 (ki : (Nat → Int32)) : (Int32 × Int32) → Option ((Int32 × Int32) ⊕ Int32) := fun s1 =>
  (if (8 : Int32) ≤ s1.2 then some (.inr s1.1) else (jx_iter (pf_X3_namesOf_s2 ki) jx_F (s1.1, (0 : Int32))).bind fun k5 => some (.inl (k5, (s1.2 + (1 : Int32)))))
def pf_X3_namesOf (ki : (Nat → Int32)) (p0 : Int32) : Option Int32 :=
  (jx_iter (pf_X3_namesOf_s1 ki) jx_F (((1 : Int32) <<< (p0 &&& 31)), (0 : Int32))).bind fun k2 => some (k2 &&& (((1 : Int32) <<< (p0 &&& 31)) ^^^ (-1 : Int32)))
def pf_X3_settle (ow : (Nat → Int64)) (th : (Nat → Int64)) (cm : (Nat → Int64)) (tr : Int32) (ch : Int32) : Option ((Nat → Int64) × Int32) :=
  (pf_X3_spread ow th cm tr).bind fun r1 => some (r1, (ch + (1 : Int32)))
def pf_X3_put (un : (Nat → Int32)) (ow : (Nat → Int64)) (th : (Nat → Int64)) (cm : (Nat → Int64)) (tr : Int32) (ch : Int32) (p0 : Int32) (p1 : Int32) (p2 : Int64) : Option ((Nat → Int32) × (Nat → Int64) × (Nat → Int64) × Int32 × Int32) :=
  (jx_gd (jx_in p0 8)).bind fun _ => (jx_gd (jx_in p0 8)).bind fun _ => (pf_X3_settle (vp_updL ow (p0).toNatClampNeg p2) th cm (tr ||| ((1 : Int32) <<< (p0 &&& 31))) ch).bind fun r1 => some ((upd un (p0).toNatClampNeg p1), (vp_updL ow (p0).toNatClampNeg p2), r1.1, (tr ||| ((1 : Int32) <<< (p0 &&& 31))), r1.2)
def pf_X4_greatest_s1 (p0 : Int64) (p1 : Int32) : Int32 → Option (Int32 ⊕ (Unit ⊕ Int32)) := fun s1 =>
  (if s1 < (1 : Int32) then some (.inr (.inl ())) else (pf_X6_isSet p0 (((s1 - (1 : Int32)) * (12 : Int32)) + p1)).bind fun r4 => (if r4 = 0 then some (.inl (s1 + (-1 : Int32))) else some (.inr (.inr s1))))
def pf_X4_greatest (p0 : Int64) (p1 : Int32) : Option Int32 :=
  (jx_iter (pf_X4_greatest_s1 p0 p1) jx_F (3 : Int32)).bind fun k2 => Sum.elim (fun xk2 => some (0 : Int32)) (fun y => some y) k2
def pf_X3_reachHeld (cm : (Nat → Int64)) (p0 : Int32) (p1 : Int32) : Option Int32 :=
  (jx_gd (jx_in p0 8)).bind fun _ => (pf_X4_greatest (cm (p0).toNatClampNeg) p1).bind fun r1 => some r1
def pf_X4_letThrough (p0 : Int32) : Option Int64 :=
  (if ¬ p0 = (-1 : Int32) then some ((68719476735 : Int64) &&& ((-1 : Int64) <<< (((p0 * (12 : Int32))).toInt64 &&& 63))) else some (0 : Int64))
def pf_X3_setJoin (ki : (Nat → Int32)) (th : (Nat → Int64)) (p0 : Int32) (p1 : Int32) (p2 : Int32) : Option ((Nat → Int32) × (Nat → Int64)) :=
  (jx_gd (jx_in ((p0 * (8 : Int32)) + p1) 64)).bind fun _ => (pf_X4_letThrough p2).bind fun r1 => (jx_gd (jx_in ((p0 * (8 : Int32)) + p1) 64)).bind fun _ => some ((upd ki (((p0 * (8 : Int32)) + p1)).toNatClampNeg p2), (vp_updL th (((p0 * (8 : Int32)) + p1)).toNatClampNeg r1))
def pf_X3_remove_s1 (p0 : Int32) : (Int32 × (Nat → Int32) × (Nat → Int64)) → Option ((Int32 × (Nat → Int32) × (Nat → Int64)) ⊕ ((Nat → Int32) × (Nat → Int64))) := fun s3 =>
  (if (8 : Int32) ≤ s3.1 then some (.inr (s3.2.1, s3.2.2)) else (pf_X3_setJoin s3.2.1 s3.2.2 p0 s3.1 (-1 : Int32)).bind fun r6 => (pf_X3_setJoin r6.1 r6.2 s3.1 p0 (-1 : Int32)).bind fun r7 => some (.inl ((s3.1 + (1 : Int32)), r7.1, r7.2)))
def pf_X3_remove (ow : (Nat → Int64)) (ki : (Nat → Int32)) (th : (Nat → Int64)) (cm : (Nat → Int64)) (tr : Int32) (tl : Int32) (ch : Int32) (p0 : Int32) : Option (Int32 × (Nat → Int32) × (Nat → Int64) × (Nat → Int64) × Int32 × Int32 × Int32) :=
  (pf_X3_joinsFrom ki p0).bind fun r1 => (pf_X3_joinsTo ki p0).bind fun r2 => (jx_iter (pf_X3_remove_s1 p0) jx_F ((0 : Int32), ki, th)).bind fun k4 => (pf_X3_settle ow k4.2 cm (tr &&& (((1 : Int32) <<< (p0 &&& 31)) ^^^ (-1 : Int32))) ch).bind fun r8 => some ((r1 + r2), k4.1, k4.2, r8.1, (tr &&& (((1 : Int32) <<< (p0 &&& 31)) ^^^ (-1 : Int32))), (tl + (1 : Int32)), r8.2)
def pf_X3_setKind (ow : (Nat → Int64)) (ki : (Nat → Int32)) (th : (Nat → Int64)) (cm : (Nat → Int64)) (tr : Int32) (ch : Int32) (p0 : Int32) (p1 : Int32) (p2 : Int32) : Option ((Nat → Int32) × (Nat → Int64) × (Nat → Int64) × Int32) :=
  (pf_X3_setJoin ki th p0 p1 p2).bind fun r1 => (pf_X3_settle ow r1.2 cm tr ch).bind fun r2 => some (r1.1, r1.2, r2.1, r2.2)
def pf_X4_bars (p0 : Int64) : Option Int32 :=
  (pf_X4_itemsIn p0).bind fun r1 => some (r1 >>> ((6 : Int32) &&& 31))
def pf_X4_duties (p0 : Int64) : Option Int32 :=
  (pf_X4_itemsIn p0).bind fun r1 => some (r1 &&& (63 : Int32))
def pf_X4_looser (p0 : Int64) (p1 : Int64) : Option Int32 :=
  ((if ¬ (lg_cmp (p0 &&& (p1 ^^^ (-1 : Int64))) (0 : Int64)) = 0 then some (0 : Int32) else some (1 : Int32)) : Option Int32).bind fun j1 => ((if ¬ (lg_cmp (p1 &&& (p0 ^^^ (-1 : Int64))) (0 : Int64)) = 0 then some (0 : Int32) else some (2 : Int32)) : Option Int32).bind fun j2 => some (j1 + j2)
def pf_X5_nearer_s1 (ki : (Nat → Int32)) (jl : (Nat → Int32)) (p0 : Int32) (p1 : Int32) (p2 : Int32) : Int32 → Option (Int32 ⊕ (Unit ⊕ Int32)) := fun s1 =>
  (if (8 : Int32) ≤ s1 then some (.inr (.inl ())) else (jx_gd (jx_in s1 8)).bind fun _ => (if ¬ (jl (s1).toNatClampNeg) = p1 then some (.inl (s1 + (1 : Int32))) else (pf_X3_lets ki p0 s1 p2).bind fun r4 => (if r4 = 0 then some (.inl (s1 + (1 : Int32))) else some (.inr (.inr s1)))))
def pf_X5_nearer (ki : (Nat → Int32)) (jl : (Nat → Int32)) (p0 : Int32) (p1 : Int32) (p2 : Int32) : Option Int32 :=
  (jx_iter (pf_X5_nearer_s1 ki jl p0 p1 p2) jx_F (0 : Int32)).bind fun k2 => Sum.elim (fun xk2 => some (-1 : Int32)) (fun y => some y) k2
def pf_X5_measure_s1 (ow : (Nat → Int64)) (tr : Int32) (p0 : Int32) (p1 : Int32) : (Int32 × (Nat → Int32)) → Option ((Int32 × (Nat → Int32)) ⊕ (Nat → Int32)) := fun s1 =>
  (if (8 : Int32) ≤ s1.1 then some (.inr s1.2) else (pf_X3_has tr s1.1).bind fun r4 => ((if r4 = 0 then some (0 : Int32) else (jx_gd (jx_in s1.1 8)).bind fun _ => (pf_X4_greatest (ow (s1.1).toNatClampNeg) p0).bind fun r6 => (if ¬ r6 = p1 then some (0 : Int32) else some (1 : Int32))) : Option Int32).bind fun j5 => ((if j5 = 0 then some (-1 : Int32) else some (0 : Int32)) : Option Int32).bind fun j7 => (jx_gd (jx_in s1.1 8)).bind fun _ => some (.inl ((s1.1 + (1 : Int32)), (upd s1.2 (s1.1).toNatClampNeg j7))))
def pf_X5_measure_s3 (ki : (Nat → Int32)) (p1 : Int32) (s8 : (Int32 × (Nat → Int32))) : (Int32 × (Nat → Int32)) → Option ((Int32 × (Nat → Int32)) ⊕ (Nat → Int32)) := fun s11 =>
  (if (8 : Int32) ≤ s11.1 then some (.inr s11.2) else (jx_gd (jx_in s11.1 8)).bind fun _ => ((if ¬ (s11.2 (s11.1).toNatClampNeg) = (-1 : Int32) then some s11.2 else (pf_X5_nearer ki s11.2 s11.1 (s8.1 - (1 : Int32)) p1).bind fun r15 => (if r15 = (-1 : Int32) then some s11.2 else (jx_gd (jx_in s11.1 8)).bind fun _ => some (upd s11.2 (s11.1).toNatClampNeg s8.1))) : Option (Nat → Int32)).bind fun j14 => some (.inl ((s11.1 + (1 : Int32)), j14)))
def pf_X5_measure_s2 (ki : (Nat → Int32)) (p1 : Int32) : (Int32 × (Nat → Int32)) → Option ((Int32 × (Nat → Int32)) ⊕ (Nat → Int32)) := fun s8 =>
  (if (8 : Int32) ≤ s8.1 then some (.inr s8.2) else (jx_iter (pf_X5_measure_s3 ki p1 s8) jx_F ((0 : Int32), s8.2)).bind fun k12 => some (.inl ((s8.1 + (1 : Int32)), k12)))
def pf_X5_measure (ow : (Nat → Int64)) (ki : (Nat → Int32)) (tr : Int32) (jl : (Nat → Int32)) (p0 : Int32) (p1 : Int32) : Option (Nat → Int32) :=
  (jx_iter (pf_X5_measure_s1 ow tr p0 p1) jx_F ((0 : Int32), jl)).bind fun k2 => (jx_iter (pf_X5_measure_s2 ki p1) jx_F ((1 : Int32), k2)).bind fun k9 => some k9
def pf_X5_partAt_s1 (ki : (Nat → Int32)) (p2 : Int32) (r1 : Int32) (r2 : (Nat → Int32)) : (Int32 × Int32) → Option ((Int32 × Int32) ⊕ Int32) := fun s3 =>
  (if s3.1 = (-1 : Int32) then some (.inr s3.1) else (if p2 ≤ s3.2 then some (.inr s3.1) else (jx_gd (jx_in s3.1 8)).bind fun _ => (pf_X5_nearer ki r2 s3.1 ((r2 (s3.1).toNatClampNeg) - (1 : Int32)) r1).bind fun r6 => some (.inl (r6, (s3.2 + (1 : Int32))))))
def pf_X5_partAt (ow : (Nat → Int64)) (ki : (Nat → Int32)) (cm : (Nat → Int64)) (tr : Int32) (jl : (Nat → Int32)) (p0 : Int32) (p1 : Int32) (p2 : Int32) : Option (Int32 × (Nat → Int32)) :=
  (pf_X3_reachHeld cm p0 p1).bind fun r1 => (if r1 = 0 then some ((-1 : Int32), jl) else (if 0 ≤ p2 then (pf_X5_measure ow ki tr jl p1 r1).bind fun r2 => (jx_gd (jx_in p0 8)).bind fun _ => (if p2 ≤ (r2 (p0).toNatClampNeg) then (jx_iter (pf_X5_partAt_s1 ki p2 r1 r2) jx_F (p0, (0 : Int32))).bind fun k4 => some (k4, r2) else some ((-1 : Int32), r2)) else some ((-1 : Int32), jl)))
def pf_X6_blank (pl : Int32) : Option (Int32 × Int32) :=
  (pf_X2_wipe pl).bind fun r1 => some (r1.1, r1.2)
def pf_X6_cause (ow : (Nat → Int64)) (th : (Nat → Int64)) (cm : (Nat → Int64)) (tr : Int32) (ch : Int32) (bz : (Nat → Int64)) (rw : (Nat → Int64)) (kf : Int32) (p0 : Int32) (p1 : Int32) : Option (Int32 × (Nat → Int64) × (Nat → Int64) × Int32) :=
  (pf_X3_has tr p0).bind fun r1 => (if ¬ r1 = 0 then (if p1 < 0 then some ((-1002 : Int32), bz, rw, kf) else (if (6 : Int32) ≤ p1 then some ((-1002 : Int32), bz, rw, kf) else (pf_X1_fewestFor ow th cm tr ch bz rw kf ((p0 * (6 : Int32)) + p1)).bind fun r2 => some (r2.1, r2.2.1, r2.2.2.1, r2.2.2.2))) else some ((-1001 : Int32), bz, rw, kf))
def pf_X6_clash (cm : (Nat → Int64)) (p0 : Int32) : Option Int32 :=
  (pf_X1_at cm p0).bind fun r1 => (if ¬ r1 = (-1 : Int32) then some r1 else some (-1001 : Int32))
def pf_X6_count (pl : Int32) (bs : Int32) (ki : (Nat → Int32)) (cm : (Nat → Int64)) (tr : Int32) (tl : Int32) (p0 : Int32) : Option Int32 :=
  (if p0 = (0 : Int32) then some pl else (if p0 = (1 : Int32) then some bs else (if p0 = (2 : Int32) then (pf_J6_bitCount_0f7a4 tr).bind fun r1 => some r1 else (if p0 = (3 : Int32) then some tr else (if p0 = (4 : Int32) then (pf_X3_joins ki).bind fun r2 => some r2 else (if p0 = (5 : Int32) then (pf_X1_now cm).bind fun r3 => (pf_J13_bitCount_95d88 r3).bind fun r4 => some r4 else (if p0 = (6 : Int32) then (pf_X1_partsNow cm).bind fun r5 => some r5 else (if p0 = (7 : Int32) then some tl else some (-1002 : Int32)))))))))
def pf_X6_cure (ow : (Nat → Int64)) (th : (Nat → Int64)) (cm : (Nat → Int64)) (tr : Int32) (ch : Int32) (bz : (Nat → Int64)) (rw : (Nat → Int64)) (kf : Int32) : Option (Int32 × (Nat → Int64) × (Nat → Int64) × Int32) :=
  (pf_X1_fewestToLeave ow th cm tr ch bz rw kf).bind fun r1 => some (r1.1, r1.2.1, r1.2.2.1, r1.2.2.2)
def pf_X6_isItem (p0 : Int32) : Option Int32 :=
  (if p0 < 0 then some (0 : Int32) else (if (12 : Int32) ≤ p0 then some (0 : Int32) else some (1 : Int32)))
def pf_X6_reach (bs : Int32) (br : (Nat → Int64)) (p0 : Int32) (p1 : Int32) : Option Int32 :=
  (pf_X0_has bs p0).bind fun r1 => (if ¬ r1 = 0 then (pf_X6_isItem p1).bind fun r2 => (if r2 = 0 then some (-1002 : Int32) else (jx_gd (jx_in p0 8)).bind fun _ => (pf_X4_greatest (br (p0).toNatClampNeg) p1).bind fun r3 => some r3) else some (-1001 : Int32))
def pf_X6_mix (p0 : Int64) (p1 : Int64) : Option Int64 :=
  some (((31 : Int64) * p0) + p1)
def pf_X6_withTerms_s2 (bs : Int32) (br : (Nat → Int64)) (s1 : (Int64 × Int32)) : (Int64 × Int32) → Option ((Int64 × Int32) ⊕ Int64) := fun s4 =>
  (if (12 : Int32) ≤ s4.2 then some (.inr s4.1) else (pf_X6_reach bs br s1.2 s4.2).bind fun r7 => (pf_X6_mix s4.1 (r7).toInt64).bind fun r8 => some (.inl (r8, (s4.2 + (1 : Int32)))))
def pf_X6_withTerms_s1 (bs : Int32) (br : (Nat → Int64)) : (Int64 × Int32) → Option ((Int64 × Int32) ⊕ Int64) := fun s1 =>
  (if bs ≤ s1.2 then some (.inr s1.1) else (jx_iter (pf_X6_withTerms_s2 bs br s1) jx_F (s1.1, (0 : Int32))).bind fun k5 => some (.inl (k5, (s1.2 + (1 : Int32)))))
def pf_X6_withTerms (bs : Int32) (br : (Nat → Int64)) (p0 : Int64) : Option Int64 :=
  (jx_iter (pf_X6_withTerms_s1 bs br) jx_F (p0, (0 : Int32))).bind fun k2 => some k2
def pf_X6_of (un : (Nat → Int32)) (ki : (Nat → Int32)) (cm : (Nat → Int64)) (tr : Int32) (p0 : Int32) (p1 : Int32) : Option Int32 :=
  (pf_X3_has tr p0).bind fun r1 => (if ¬ r1 = 0 then (if p1 = (0 : Int32) then (jx_gd (jx_in p0 8)).bind fun _ => some (un (p0).toNatClampNeg) else (if p1 = (1 : Int32) then (jx_gd (jx_in p0 8)).bind fun _ => (pf_X4_duties (cm (p0).toNatClampNeg)).bind fun r2 => some r2 else (if p1 = (2 : Int32) then (jx_gd (jx_in p0 8)).bind fun _ => (pf_X4_bars (cm (p0).toNatClampNeg)).bind fun r3 => some r3 else (if p1 = (3 : Int32) then (jx_gd (jx_in p0 8)).bind fun _ => (pf_X4_meeting (cm (p0).toNatClampNeg)).bind fun r4 => some r4 else (if p1 = (4 : Int32) then (pf_X3_namesOf ki p0).bind fun r5 => some r5 else (if p1 = (5 : Int32) then (pf_X3_joinsFrom ki p0).bind fun r6 => some r6 else (if p1 = (6 : Int32) then (pf_X3_joinsTo ki p0).bind fun r7 => some r7 else some (-1002 : Int32)))))))) else some (-1001 : Int32))
def pf_X6_held (cm : (Nat → Int64)) (tr : Int32) (p0 : Int32) (p1 : Int32) : Option Int32 :=
  (pf_X3_has tr p0).bind fun r1 => (if ¬ r1 = 0 then (pf_X6_isItem p1).bind fun r2 => (if r2 = 0 then some (-1002 : Int32) else (pf_X3_reachHeld cm p0 p1).bind fun r3 => some r3) else some (-1001 : Int32))
def pf_X6_kind (ki : (Nat → Int32)) (tr : Int32) (p0 : Int32) (p1 : Int32) : Option Int32 :=
  (pf_X3_has tr p0).bind fun r1 => (if r1 = 0 then some (-1001 : Int32) else (pf_X3_has tr p1).bind fun r2 => (if r2 = 0 then some (-1001 : Int32) else (pf_X3_kindOf ki p0 p1).bind fun r3 => some r3))
def pf_X6_withPart_s1 (un : (Nat → Int32)) (ki : (Nat → Int32)) (cm : (Nat → Int64)) (tr : Int32) (p1 : Int32) : (Int64 × Int32) → Option ((Int64 × Int32) ⊕ Int64) := fun s2 =>
  (if (6 : Int32) < s2.2 then some (.inr s2.1) else (pf_X6_of un ki cm tr p1 s2.2).bind fun r5 => (pf_X6_mix s2.1 (r5).toInt64).bind fun r6 => some (.inl (r6, (s2.2 + (1 : Int32)))))
def pf_X6_withPart_s2 (cm : (Nat → Int64)) (tr : Int32) (p1 : Int32) : (Int64 × Int32) → Option ((Int64 × Int32) ⊕ Int64) := fun s7 =>
  (if (12 : Int32) ≤ s7.2 then some (.inr s7.1) else (pf_X6_held cm tr p1 s7.2).bind fun r10 => (pf_X6_mix s7.1 (r10).toInt64).bind fun r11 => some (.inl (r11, (s7.2 + (1 : Int32)))))
def pf_X6_withPart_s3 (ki : (Nat → Int32)) (tr : Int32) (p1 : Int32) : (Int64 × Int32) → Option ((Int64 × Int32) ⊕ Int64) := fun s12 =>
  (if (8 : Int32) ≤ s12.2 then some (.inr s12.1) else (pf_X3_has tr s12.2).bind fun r15 => ((if r15 = 0 then some s12.1 else (pf_X6_kind ki tr p1 s12.2).bind fun r17 => (pf_X6_mix s12.1 (r17).toInt64).bind fun r18 => some r18) : Option Int64).bind fun j16 => some (.inl (j16, (s12.2 + (1 : Int32)))))
def pf_X6_withPart (un : (Nat → Int32)) (ki : (Nat → Int32)) (cm : (Nat → Int64)) (tr : Int32) (p0 : Int64) (p1 : Int32) : Option Int64 :=
  (pf_X6_mix p0 (p1).toInt64).bind fun r1 => (jx_iter (pf_X6_withPart_s1 un ki cm tr p1) jx_F (r1, (0 : Int32))).bind fun k3 => (jx_iter (pf_X6_withPart_s2 cm tr p1) jx_F (k3, (0 : Int32))).bind fun k8 => (jx_iter (pf_X6_withPart_s3 ki tr p1) jx_F (k8, (0 : Int32))).bind fun k13 => some k13
def pf_X6_withClashes_s1 (ow : (Nat → Int64)) (th : (Nat → Int64)) (cm : (Nat → Int64)) (tr : Int32) (ch : Int32) (r1 : Int64) : (Int64 × Int32 × (Nat → Int64) × (Nat → Int64) × Int32) → Option ((Int64 × Int32 × (Nat → Int64) × (Nat → Int64) × Int32) ⊕ (Int64 × (Nat → Int64) × (Nat → Int64) × Int32)) := fun s2 =>
  (if (48 : Int32) ≤ s2.2.1 then some (.inr (s2.1, s2.2.2.1, s2.2.2.2.1, s2.2.2.2.2)) else (pf_X6_isSet r1 s2.2.1).bind fun r5 => ((if r5 = 0 then some (s2.1, s2.2.2.1, s2.2.2.2.1, s2.2.2.2.2) else (pf_X6_mix s2.1 (s2.2.1).toInt64).bind fun r7 => (pf_X1_fewestFor ow th cm tr ch s2.2.2.1 s2.2.2.2.1 s2.2.2.2.2 s2.2.1).bind fun r8 => (pf_X6_mix r7 (r8.1).toInt64).bind fun r9 => some (r9, r8.2.1, r8.2.2.1, r8.2.2.2)) : Option (Int64 × (Nat → Int64) × (Nat → Int64) × Int32)).bind fun j6 => some (.inl (j6.1, (s2.2.1 + (1 : Int32)), j6.2.1, j6.2.2.1, j6.2.2.2)))
def pf_X6_withClashes (ow : (Nat → Int64)) (th : (Nat → Int64)) (cm : (Nat → Int64)) (tr : Int32) (ch : Int32) (bz : (Nat → Int64)) (rw : (Nat → Int64)) (kf : Int32) (p0 : Int64) : Option (Int64 × (Nat → Int64) × (Nat → Int64) × Int32) :=
  (pf_X1_now cm).bind fun r1 => (jx_iter (pf_X6_withClashes_s1 ow th cm tr ch r1) jx_F (p0, (0 : Int32), bz, rw, kf)).bind fun k3 => some (k3.1, k3.2.1, k3.2.2.1, k3.2.2.2)
def pf_X6_digest_s1 (un : (Nat → Int32)) (ki : (Nat → Int32)) (cm : (Nat → Int64)) (tr : Int32) : (Int64 × Int32) → Option ((Int64 × Int32) ⊕ Int64) := fun s2 =>
  (if (8 : Int32) ≤ s2.2 then some (.inr s2.1) else (pf_X3_has tr s2.2).bind fun r5 => ((if r5 = 0 then some s2.1 else (pf_X6_withPart un ki cm tr s2.1 s2.2).bind fun r7 => some r7) : Option Int64).bind fun j6 => some (.inl (j6, (s2.2 + (1 : Int32)))))
def pf_X6_digest_s2 (pl : Int32) (cd : (Nat → Int32)) : (Int64 × Int32) → Option ((Int64 × Int32) ⊕ Int64) := fun s11 =>
  (if pl ≤ s11.2 then some (.inr s11.1) else (jx_gd (jx_in s11.2 24)).bind fun _ => (pf_X6_mix s11.1 ((cd (s11.2).toNatClampNeg)).toInt64).bind fun r14 => some (.inl (r14, (s11.2 + (1 : Int32)))))
def pf_X6_digest_s3 (pl : Int32) (bs : Int32) (ki : (Nat → Int32)) (cm : (Nat → Int64)) (tr : Int32) (tl : Int32) : (Int64 × Int32) → Option ((Int64 × Int32) ⊕ Int64) := fun s15 =>
  (if (7 : Int32) < s15.2 then some (.inr s15.1) else (pf_X6_count pl bs ki cm tr tl s15.2).bind fun r18 => (pf_X6_mix s15.1 (r18).toInt64).bind fun r19 => some (.inl (r19, (s15.2 + (1 : Int32)))))
def pf_X6_digest (pl : Int32) (cd : (Nat → Int32)) (bs : Int32) (br : (Nat → Int64)) (un : (Nat → Int32)) (ow : (Nat → Int64)) (ki : (Nat → Int32)) (th : (Nat → Int64)) (cm : (Nat → Int64)) (tr : Int32) (tl : Int32) (ch : Int32) (bz : (Nat → Int64)) (rw : (Nat → Int64)) (kf : Int32) : Option (Int64 × (Nat → Int64) × (Nat → Int64) × Int32) :=
  (pf_X6_withTerms bs br (1697 : Int64)).bind fun r1 => (jx_iter (pf_X6_digest_s1 un ki cm tr) jx_F (r1, (0 : Int32))).bind fun k3 => (pf_X6_withClashes ow th cm tr ch bz rw kf k3).bind fun r8 => (pf_X6_cure ow th cm tr ch r8.2.1 r8.2.2.1 r8.2.2.2).bind fun r9 => (pf_X6_mix r8.1 (r9.1).toInt64).bind fun r10 => (jx_iter (pf_X6_digest_s2 pl cd) jx_F (r10, (0 : Int32))).bind fun k12 => (jx_iter (pf_X6_digest_s3 pl bs ki cm tr tl) jx_F (k12, (0 : Int32))).bind fun k16 => some (k16, r9.2.1, r9.2.2.1, r9.2.2.2)
def pf_X6_fault (pl : Int32) (cd : (Nat → Int32)) : Option Int32 :=
  (pf_X2_firstFault pl cd).bind fun r1 => some r1
def pf_X6_give (bs : Int32) (br : (Nat → Int64)) (un : (Nat → Int32)) (ow : (Nat → Int64)) (th : (Nat → Int64)) (cm : (Nat → Int64)) (tr : Int32) (ch : Int32) (p0 : Int32) (p1 : Int32) : Option (Int32 × (Nat → Int32) × (Nat → Int64) × (Nat → Int64) × Int32 × Int32) :=
  (pf_X3_has tr p0).bind fun r1 => (if r1 = 0 then some ((-1001 : Int32), un, ow, cm, tr, ch) else (pf_X0_has bs p1).bind fun r2 => (if ¬ r2 = 0 then (jx_gd (jx_in p0 8)).bind fun _ => (jx_gd (jx_in p1 8)).bind fun _ => (pf_X3_put un ow th cm tr ch p0 p1 (br (p1).toNatClampNeg)).bind fun r3 => some ((un (p0).toNatClampNeg), r3.1, r3.2.1, r3.2.2.1, r3.2.2.2.1, r3.2.2.2.2) else some ((-1001 : Int32), un, ow, cm, tr, ch)))
def pf_X6_join (ow : (Nat → Int64)) (ki : (Nat → Int32)) (th : (Nat → Int64)) (cm : (Nat → Int64)) (tr : Int32) (ch : Int32) (p0 : Int32) (p1 : Int32) (p2 : Int32) : Option (Int32 × (Nat → Int32) × (Nat → Int64) × (Nat → Int64) × Int32) :=
  (pf_X3_has tr p0).bind fun r1 => (if r1 = 0 then some ((-1001 : Int32), ki, th, cm, ch) else (pf_X3_has tr p1).bind fun r2 => (if r2 = 0 then some ((-1001 : Int32), ki, th, cm, ch) else (if ¬ p0 = p1 then (if p2 < (-1 : Int32) then some ((-1002 : Int32), ki, th, cm, ch) else (if p2 ≤ (3 : Int32) then (pf_X3_kindOf ki p0 p1).bind fun r3 => (pf_X3_setKind ow ki th cm tr ch p0 p1 p2).bind fun r4 => some (r3, r4.1, r4.2.1, r4.2.2.1, r4.2.2.2) else some ((-1002 : Int32), ki, th, cm, ch))) else some ((-1001 : Int32), ki, th, cm, ch))))
def pf_X6_leave (ow : (Nat → Int64)) (ki : (Nat → Int32)) (th : (Nat → Int64)) (cm : (Nat → Int64)) (tr : Int32) (tl : Int32) (ch : Int32) (p0 : Int32) : Option (Int32 × (Nat → Int32) × (Nat → Int64) × (Nat → Int64) × Int32 × Int32 × Int32) :=
  (pf_X3_has tr p0).bind fun r1 => (if r1 = 0 then some ((-1001 : Int32), ki, th, cm, tr, tl, ch) else (pf_X3_remove ow ki th cm tr tl ch p0).bind fun r2 => some (r2.1, r2.2.1, r2.2.2.1, r2.2.2.2.1, r2.2.2.2.2.1, r2.2.2.2.2.2.1, r2.2.2.2.2.2.2))
def pf_X6_letter (pl : Int32) (cd : (Nat → Int32)) (p0 : Int32) : Option (Int32 × Int32 × (Nat → Int32)) :=
  (if p0 < (32 : Int32) then some ((-1002 : Int32), pl, cd) else (if p0 ≤ (126 : Int32) then (if (24 : Int32) ≤ pl then some ((-1004 : Int32), pl, cd) else (pf_X2_write pl cd p0).bind fun r1 => some (r1.1, r1.2.1, r1.2.2)) else some ((-1002 : Int32), pl, cd)))
def pf_X6_part (bs : Int32) (br : (Nat → Int64)) (un : (Nat → Int32)) (ow : (Nat → Int64)) (th : (Nat → Int64)) (cm : (Nat → Int64)) (tr : Int32) (ch : Int32) (p0 : Int32) : Option (Int32 × (Nat → Int32) × (Nat → Int64) × (Nat → Int64) × Int32 × Int32) :=
  (pf_X0_has bs p0).bind fun r1 => (if ¬ r1 = 0 then (pf_X3_leastFree tr).bind fun r2 => (if ¬ r2 = (-1 : Int32) then (jx_gd (jx_in p0 8)).bind fun _ => (pf_X3_put un ow th cm tr ch r2 p0 (br (p0).toNatClampNeg)).bind fun r3 => some (r2, r3.1, r3.2.1, r3.2.2.1, r3.2.2.2.1, r3.2.2.2.2) else some ((-1004 : Int32), un, ow, cm, tr, ch)) else some ((-1001 : Int32), un, ow, cm, tr, ch))
def pf_X6_terms (pl : Int32) (cd : (Nat → Int32)) (bs : Int32) (br : (Nat → Int64)) : Option (Int32 × Int32 × Int32 × (Nat → Int64)) :=
  (if pl = 0 then some ((-1003 : Int32), pl, bs, br) else (pf_X2_firstFault pl cd).bind fun r1 => (if pl ≤ r1 then (pf_X2_meaning pl cd).bind fun r2 => (pf_X0_numberFor bs br r2).bind fun r3 => (if ¬ r3.1 = (-1 : Int32) then (pf_X2_wipe pl).bind fun r4 => some (r3.1, r4.2, r3.2.1, r3.2.2) else some ((-1004 : Int32), pl, r3.2.1, r3.2.2)) else some ((-1003 : Int32), pl, bs, br)))
def pf_X6_two (bs : Int32) (br : (Nat → Int64)) (p0 : Int32) (p1 : Int32) (p2 : Int32) : Option Int32 :=
  (pf_X0_has bs p0).bind fun r1 => (if r1 = 0 then some (-1001 : Int32) else (pf_X0_has bs p1).bind fun r2 => (if ¬ r2 = 0 then (jx_gd (jx_in p0 8)).bind fun _ => (jx_gd (jx_in p1 8)).bind fun _ => (if p2 = (0 : Int32) then (pf_X4_looser (br (p0).toNatClampNeg) (br (p1).toNatClampNeg)).bind fun r3 => some r3 else (if p2 = (1 : Int32) then (pf_X0_find bs br ((br (p0).toNatClampNeg) ||| (br (p1).toNatClampNeg))).bind fun r4 => some r4 else (if p2 = (2 : Int32) then (pf_X0_find bs br ((br (p0).toNatClampNeg) &&& (br (p1).toNatClampNeg))).bind fun r5 => some r5 else some (-1002 : Int32)))) else some (-1001 : Int32)))
def pf_X6_way (ow : (Nat → Int64)) (ki : (Nat → Int32)) (cm : (Nat → Int64)) (tr : Int32) (jl : (Nat → Int32)) (p0 : Int32) (p1 : Int32) (p2 : Int32) : Option (Int32 × (Nat → Int32)) :=
  (pf_X3_has tr p0).bind fun r1 => (if ¬ r1 = 0 then (pf_X6_isItem p1).bind fun r2 => (if r2 = 0 then some ((-1002 : Int32), jl) else (pf_X5_partAt ow ki cm tr jl p0 p1 p2).bind fun r3 => some (r3.1, r3.2)) else some ((-1001 : Int32), jl))
def pf_X7_has (p0 : Int32) (p1 : Int32) : Option Int32 :=
  (if ¬ ((p0 >>> (p1 &&& 31)) &&& (1 : Int32)) = (1 : Int32) then some (0 : Int32) else some (1 : Int32))
def pf_X7_ownReach (nr : (Nat → Int32)) (ns : (Nat → Int32)) (p0 : Int32) (p1 : Int32) : Option Int32 :=
  (jx_gd (jx_in p0 8)).bind fun _ => (jx_gd (jx_in (((12 : Int32) * (ns (p0).toNatClampNeg)) + p1) 108)).bind fun _ => some (nr ((((12 : Int32) * (ns (p0).toNatClampNeg)) + p1)).toNatClampNeg)
def pf_X7_withReach_s1 (nr : (Nat → Int32)) (ns : (Nat → Int32)) (p0 : Int32) (p1 : Int32) (p2 : Int32) : (Int32 × Int32) → Option ((Int32 × Int32) ⊕ Int32) := fun s1 =>
  (if (8 : Int32) ≤ s1.2 then some (.inr s1.1) else (pf_X7_has p0 s1.2).bind fun r4 => ((if r4 = 0 then some (0 : Int32) else (pf_X7_ownReach nr ns s1.2 p1).bind fun r6 => (if ¬ r6 = p2 then some (0 : Int32) else some ((1 : Int32) <<< (s1.2 &&& 31)))) : Option Int32).bind fun j5 => some (.inl ((s1.1 ||| j5), (s1.2 + (1 : Int32)))))
def pf_X7_withReach_s3 (nk : (Nat → Int32)) (p0 : Int32) (p2 : Int32) (s7 : (Int32 × Int32)) : (Int32 × Int32) → Option ((Int32 × Int32) ⊕ Int32) := fun s10 =>
  (if (64 : Int32) ≤ s10.2 then some (.inr s10.1) else (pf_X7_has p0 (s10.2 / (8 : Int32))).bind fun r13 => ((if r13 = 0 then some (0 : Int32) else (pf_X7_has s7.1 (s10.2 - s10.2 / (8 : Int32) * (8 : Int32))).bind fun r15 => (if r15 = 0 then some (0 : Int32) else (jx_gd (jx_in s10.2 64)).bind fun _ => (if (nk (s10.2).toNatClampNeg) = (-1 : Int32) then some (0 : Int32) else (jx_gd (jx_in s10.2 64)).bind fun _ => (if p2 ≤ (nk (s10.2).toNatClampNeg) then some (0 : Int32) else some (1 : Int32))))) : Option Int32).bind fun j14 => ((if j14 = 0 then some (0 : Int32) else some ((1 : Int32) <<< ((s10.2 / (8 : Int32)) &&& 31))) : Option Int32).bind fun j16 => some (.inl ((s10.1 ||| j16), (s10.2 + (1 : Int32)))))
def pf_X7_withReach_s2 (nk : (Nat → Int32)) (p0 : Int32) (p2 : Int32) : (Int32 × Int32) → Option ((Int32 × Int32) ⊕ Int32) := fun s7 =>
  (if s7.2 = s7.1 then some (.inr s7.1) else (jx_iter (pf_X7_withReach_s3 nk p0 p2 s7) jx_F (s7.1, (0 : Int32))).bind fun k11 => some (.inl (k11, s7.1)))
def pf_X7_withReach (nr : (Nat → Int32)) (ns : (Nat → Int32)) (nk : (Nat → Int32)) (p0 : Int32) (p1 : Int32) (p2 : Int32) : Option Int32 :=
  (jx_iter (pf_X7_withReach_s1 nr ns p0 p1 p2) jx_F ((0 : Int32), (0 : Int32))).bind fun k2 => (jx_iter (pf_X7_withReach_s2 nk p0 p2) jx_F (k2, (0 : Int32))).bind fun k8 => some k8
def pf_X7_heldBy (nr : (Nat → Int32)) (ns : (Nat → Int32)) (nk : (Nat → Int32)) (p0 : Int32) (p1 : Int32) : Option Int32 :=
  (pf_X7_withReach nr ns nk p0 p1 (1 : Int32)).bind fun r1 => (pf_X7_withReach nr ns nk p0 p1 (2 : Int32)).bind fun r2 => (pf_X7_withReach nr ns nk p0 p1 (3 : Int32)).bind fun r3 => some ((r1 ||| r2) ||| r3)
def pf_X7_actsOf_s1 (nr : (Nat → Int32)) (nh : Int32) (ns : (Nat → Int32)) (nk : (Nat → Int32)) (p0 : Int32) (p1 : Int32) : (Int32 × Int32) → Option ((Int32 × Int32) ⊕ Int32) := fun s1 =>
  (if (6 : Int32) ≤ s1.2 then some (.inr s1.1) else (pf_X7_heldBy nr ns nk nh s1.2).bind fun r4 => (pf_X7_has r4 p0).bind fun r5 => (pf_X7_heldBy nr ns nk nh (s1.2 + (6 : Int32))).bind fun r6 => (pf_X7_has r6 p0).bind fun r7 => ((if ¬ p1 = (1 : Int32) then (if ¬ p1 = (2 : Int32) then (if r5 = 0 then some (0 : Int32) else (if r7 = 0 then some (0 : Int32) else some (1 : Int32))) else some r7) else some r5) : Option Int32).bind fun j8 => ((if j8 = 0 then some (0 : Int32) else some ((1 : Int32) <<< (s1.2 &&& 31))) : Option Int32).bind fun j9 => some (.inl ((s1.1 ||| j9), (s1.2 + (1 : Int32)))))
def pf_X7_actsOf (nr : (Nat → Int32)) (nh : Int32) (ns : (Nat → Int32)) (nk : (Nat → Int32)) (p0 : Int32) (p1 : Int32) : Option Int32 :=
  (jx_iter (pf_X7_actsOf_s1 nr nh ns nk p0 p1) jx_F ((0 : Int32), (0 : Int32))).bind fun k2 => some k2
def pf_X7_blank (nl : Int32) : Option (Int32 × Int32) :=
  some (nl, (0 : Int32))
def pf_X7_within (p0 : Int32) (p1 : Int32) (p2 : Int32) : Option Int32 :=
  (if p0 < p1 then some (0 : Int32) else (if p2 < p0 then some (0 : Int32) else some (1 : Int32)))
def pf_X7_isPart (nh : Int32) (p0 : Int32) : Option Int32 :=
  (pf_X7_within p0 (0 : Int32) (7 : Int32)).bind fun r1 => (if r1 = 0 then some (0 : Int32) else (pf_X7_has nh p0).bind fun r2 => (if r2 = 0 then some (0 : Int32) else some (1 : Int32)))
def pf_X7_ones_s1 (p0 : Int32) : (Int32 × Int32) → Option ((Int32 × Int32) ⊕ Int32) := fun s1 =>
  (if (8 : Int32) ≤ s1.2 then some (.inr s1.1) else some (.inl ((s1.1 + ((p0 >>> (s1.2 &&& 31)) &&& (1 : Int32))), (s1.2 + (1 : Int32)))))
def pf_X7_ones (p0 : Int32) : Option Int32 :=
  (jx_iter (pf_X7_ones_s1 p0) jx_F ((0 : Int32), (0 : Int32))).bind fun k2 => some k2
def pf_X7_clashing (nr : (Nat → Int32)) (ns : (Nat → Int32)) (nk : (Nat → Int32)) (p0 : Int32) (p1 : Int32) : Option Int32 :=
  (pf_X7_heldBy nr ns nk p0 p1).bind fun r1 => (pf_X7_heldBy nr ns nk p0 (p1 + (6 : Int32))).bind fun r2 => some (r1 &&& r2)
def pf_X7_causeNow_s2 (nr : (Nat → Int32)) (nh : Int32) (ns : (Nat → Int32)) (nk : (Nat → Int32)) (p0 : Int32) (p1 : Int32) (s1 : Int32) : Int32 → Option (Int32 ⊕ (Unit ⊕ Int32)) := fun s4 =>
  (if (256 : Int32) ≤ s4 then some (.inr (.inl ())) else ((if ¬ (s4 &&& (nh ^^^ (-1 : Int32))) = 0 then some (0 : Int32) else (pf_X7_has s4 p0).bind fun r8 => (if r8 = 0 then some (0 : Int32) else (pf_X7_ones s4).bind fun r9 => (if ¬ r9 = s1 then some (0 : Int32) else some (1 : Int32)))) : Option Int32).bind fun j7 => (if j7 = 0 then some (.inl (s4 + (1 : Int32))) else (pf_X7_clashing nr ns nk s4 p1).bind fun r10 => (pf_X7_has r10 p0).bind fun r11 => (if r11 = 0 then some (.inl (s4 + (1 : Int32))) else some (.inr (.inr s4)))))
def pf_X7_causeNow_s1 (nr : (Nat → Int32)) (nh : Int32) (ns : (Nat → Int32)) (nk : (Nat → Int32)) (p0 : Int32) (p1 : Int32) : Int32 → Option (Int32 ⊕ (Unit ⊕ Int32)) := fun s1 =>
  (if (8 : Int32) < s1 then some (.inr (.inl ())) else (jx_iter (pf_X7_causeNow_s2 nr nh ns nk p0 p1 s1) jx_F (1 : Int32)).bind fun k5 => Sum.elim (fun xk5 => some (.inl (s1 + (1 : Int32)))) (fun y => some (.inr (.inr y))) k5)
def pf_X7_causeNow (nr : (Nat → Int32)) (nh : Int32) (ns : (Nat → Int32)) (nk : (Nat → Int32)) (p0 : Int32) (p1 : Int32) : Option Int32 :=
  (jx_iter (pf_X7_causeNow_s1 nr nh ns nk p0 p1) jx_F (1 : Int32)).bind fun k2 => Sum.elim (fun xk2 => some (-1 : Int32)) (fun y => some y) k2
def pf_X7_cause (nr : (Nat → Int32)) (nh : Int32) (ns : (Nat → Int32)) (nk : (Nat → Int32)) (p0 : Int32) (p1 : Int32) : Option Int32 :=
  (pf_X7_isPart nh p0).bind fun r1 => (if ¬ r1 = 0 then (pf_X7_within p1 (0 : Int32) (5 : Int32)).bind fun r2 => (if r2 = 0 then some (-1002 : Int32) else (pf_X7_causeNow nr nh ns nk p0 p1).bind fun r3 => some r3) else some (-1001 : Int32))
def pf_X7_layClashes_s2 (nr : (Nat → Int32)) (nh : Int32) (ns : (Nat → Int32)) (nk : (Nat → Int32)) (s1 : (Int32 × Int32 × (Nat → Int32))) : (Int32 × Int32 × (Nat → Int32)) → Option ((Int32 × Int32 × (Nat → Int32)) ⊕ (Int32 × (Nat → Int32))) := fun s4 =>
  (if (6 : Int32) ≤ s4.1 then some (.inr (s4.2.1, s4.2.2)) else (pf_X7_clashing nr ns nk nh s4.1).bind fun r7 => (pf_X7_has r7 s1.1).bind fun r8 => ((if r8 = 0 then some (s4.2.1, s4.2.2) else (jx_gd (jx_in s4.2.1 48)).bind fun _ => some ((s4.2.1 + (1 : Int32)), (upd s4.2.2 (s4.2.1).toNatClampNeg (((6 : Int32) * s1.1) + s4.1)))) : Option (Int32 × (Nat → Int32))).bind fun j9 => some (.inl ((s4.1 + (1 : Int32)), j9.1, j9.2)))
def pf_X7_layClashes_s1 (nr : (Nat → Int32)) (nh : Int32) (ns : (Nat → Int32)) (nk : (Nat → Int32)) : (Int32 × Int32 × (Nat → Int32)) → Option ((Int32 × Int32 × (Nat → Int32)) ⊕ (Int32 × (Nat → Int32))) := fun s1 =>
  (if (8 : Int32) ≤ s1.1 then some (.inr (s1.2.1, s1.2.2)) else (jx_iter (pf_X7_layClashes_s2 nr nh ns nk s1) jx_F ((0 : Int32), s1.2.1, s1.2.2)).bind fun k5 => some (.inl ((s1.1 + (1 : Int32)), k5.1, k5.2)))
def pf_X7_layClashes (nr : (Nat → Int32)) (nh : Int32) (ns : (Nat → Int32)) (nk : (Nat → Int32)) (nc : Int32) (ng : (Nat → Int32)) : Option (Int32 × (Nat → Int32)) :=
  (jx_iter (pf_X7_layClashes_s1 nr nh ns nk) jx_F ((0 : Int32), (0 : Int32), ng)).bind fun k2 => some (k2.1, k2.2)
def pf_X7_clash (nr : (Nat → Int32)) (nh : Int32) (ns : (Nat → Int32)) (nk : (Nat → Int32)) (nc : Int32) (ng : (Nat → Int32)) (p0 : Int32) : Option (Int32 × Int32 × (Nat → Int32)) :=
  (pf_X7_layClashes nr nh ns nk nc ng).bind fun r1 => (pf_X7_within p0 (0 : Int32) (r1.1 - (1 : Int32))).bind fun r2 => (if r2 = 0 then some ((-1001 : Int32), r1.1, r1.2) else (jx_gd (jx_in p0 48)).bind fun _ => some ((r1.2 (p0).toNatClampNeg), r1.1, r1.2))
def pf_X7_clashMany_s1 (r1 : (Int32 × (Nat → Int32))) : (Int32 × Int32) → Option ((Int32 × Int32) ⊕ Int32) := fun s2 =>
  (if r1.1 ≤ s2.2 then some (.inr s2.1) else (jx_gd (jx_in s2.2 48)).bind fun _ => some (.inl ((s2.1 ||| ((1 : Int32) <<< (((r1.2 (s2.2).toNatClampNeg) / (6 : Int32)) &&& 31))), (s2.2 + (1 : Int32)))))
def pf_X7_clashMany (nr : (Nat → Int32)) (nh : Int32) (ns : (Nat → Int32)) (nk : (Nat → Int32)) (nc : Int32) (ng : (Nat → Int32)) (p0 : Int32) : Option (Int32 × Int32 × (Nat → Int32)) :=
  (pf_X7_layClashes nr nh ns nk nc ng).bind fun r1 => (jx_iter (pf_X7_clashMany_s1 r1) jx_F ((0 : Int32), (0 : Int32))).bind fun k3 => (if p0 = 0 then some (r1.1, r1.1, r1.2) else (pf_X7_ones k3).bind fun r5 => some (r5, r1.1, r1.2))
def pf_X7_usesOf_s1 (nh : Int32) (nk : (Nat → Int32)) (p0 : Int32) : (Int32 × Int32) → Option ((Int32 × Int32) ⊕ Int32) := fun s1 =>
  (if (8 : Int32) ≤ s1.2 then some (.inr s1.1) else (pf_X7_has nh s1.2).bind fun r4 => ((if r4 = 0 then some (0 : Int32) else (jx_gd (jx_in (((8 : Int32) * p0) + s1.2) 64)).bind fun _ => (if (nk ((((8 : Int32) * p0) + s1.2)).toNatClampNeg) = (-1 : Int32) then some (0 : Int32) else some (1 : Int32))) : Option Int32).bind fun j5 => some (.inl ((s1.1 + j5), (s1.2 + (1 : Int32)))))
def pf_X7_usesOf (nh : Int32) (nk : (Nat → Int32)) (p0 : Int32) : Option Int32 :=
  (jx_iter (pf_X7_usesOf_s1 nh nk p0) jx_F ((0 : Int32), (0 : Int32))).bind fun k2 => some k2
def pf_X7_joins_s1 (nh : Int32) (nk : (Nat → Int32)) : (Int32 × Int32) → Option ((Int32 × Int32) ⊕ Int32) := fun s1 =>
  (if (8 : Int32) ≤ s1.2 then some (.inr s1.1) else (pf_X7_has nh s1.2).bind fun r4 => ((if r4 = 0 then some (0 : Int32) else (pf_X7_usesOf nh nk s1.2).bind fun r6 => some r6) : Option Int32).bind fun j5 => some (.inl ((s1.1 + j5), (s1.2 + (1 : Int32)))))
def pf_X7_joins (nh : Int32) (nk : (Nat → Int32)) : Option Int32 :=
  (jx_iter (pf_X7_joins_s1 nh nk) jx_F ((0 : Int32), (0 : Int32))).bind fun k2 => some k2
def pf_X7_howMany (nl : Int32) (nt : Int32) (nr : (Nat → Int32)) (nh : Int32) (ns : (Nat → Int32)) (nk : (Nat → Int32)) (ne : Int32) (nc : Int32) (ng : (Nat → Int32)) (p0 : Int32) : Option (Int32 × Int32 × (Nat → Int32)) :=
  (if p0 = (0 : Int32) then some (nl, nc, ng) else (if p0 = (1 : Int32) then some (nt, nc, ng) else (if p0 = (2 : Int32) then (pf_X7_ones nh).bind fun r1 => some (r1, nc, ng) else (if p0 = (3 : Int32) then some (nh, nc, ng) else (if p0 = (4 : Int32) then (pf_X7_joins nh nk).bind fun r2 => some (r2, nc, ng) else (if p0 = (5 : Int32) then (pf_X7_clashMany nr nh ns nk nc ng (0 : Int32)).bind fun r3 => some (r3.1, r3.2.1, r3.2.2) else (if p0 = (6 : Int32) then (pf_X7_clashMany nr nh ns nk nc ng (1 : Int32)).bind fun r4 => some (r4.1, r4.2.1, r4.2.2) else (if p0 = (7 : Int32) then some (ne, nc, ng) else some ((-1002 : Int32), nc, ng)))))))))
def pf_X7_count (nl : Int32) (nt : Int32) (nr : (Nat → Int32)) (nh : Int32) (ns : (Nat → Int32)) (nk : (Nat → Int32)) (ne : Int32) (nc : Int32) (ng : (Nat → Int32)) (p0 : Int32) : Option (Int32 × Int32 × (Nat → Int32)) :=
  (pf_X7_howMany nl nt nr nh ns nk ne nc ng p0).bind fun r1 => some (r1.1, r1.2.1, r1.2.2)
def pf_X7_isClean_s1 (nr : (Nat → Int32)) (ns : (Nat → Int32)) (nk : (Nat → Int32)) (p0 : Int32) : (Int32 × Int32) → Option ((Int32 × Int32) ⊕ Int32) := fun s1 =>
  (if (6 : Int32) ≤ s1.2 then some (.inr s1.1) else (if s1.1 = 0 then some (.inr s1.1) else (pf_X7_clashing nr ns nk p0 s1.2).bind fun r4 => ((if ¬ r4 = 0 then some (0 : Int32) else some (1 : Int32)) : Option Int32).bind fun j5 => some (.inl (j5, (s1.2 + (1 : Int32))))))
def pf_X7_isClean (nr : (Nat → Int32)) (ns : (Nat → Int32)) (nk : (Nat → Int32)) (p0 : Int32) : Option Int32 :=
  (jx_iter (pf_X7_isClean_s1 nr ns nk p0) jx_F ((1 : Int32), (0 : Int32))).bind fun k2 => (jx_gd (decide (k2 = 0 ∨ k2 = 1))).bind fun _ => some k2
def pf_X7_cureNow_s2 (nr : (Nat → Int32)) (nh : Int32) (ns : (Nat → Int32)) (nk : (Nat → Int32)) (s1 : Int32) : Int32 → Option (Int32 ⊕ (Unit ⊕ Int32)) := fun s4 =>
  (if (256 : Int32) ≤ s4 then some (.inr (.inl ())) else (if ¬ (s4 &&& (nh ^^^ (-1 : Int32))) = 0 then some (.inl (s4 + (1 : Int32))) else (pf_X7_ones s4).bind fun r7 => (if ¬ r7 = s1 then some (.inl (s4 + (1 : Int32))) else (pf_X7_isClean nr ns nk (nh &&& (s4 ^^^ (-1 : Int32)))).bind fun r8 => (if r8 = 0 then some (.inl (s4 + (1 : Int32))) else some (.inr (.inr s4))))))
def pf_X7_cureNow_s1 (nr : (Nat → Int32)) (nh : Int32) (ns : (Nat → Int32)) (nk : (Nat → Int32)) : Int32 → Option (Int32 ⊕ (Unit ⊕ Int32)) := fun s1 =>
  (if (8 : Int32) ≤ s1 then some (.inr (.inl ())) else (jx_iter (pf_X7_cureNow_s2 nr nh ns nk s1) jx_F (0 : Int32)).bind fun k5 => Sum.elim (fun xk5 => some (.inl (s1 + (1 : Int32)))) (fun y => some (.inr (.inr y))) k5)
def pf_X7_cureNow (nr : (Nat → Int32)) (nh : Int32) (ns : (Nat → Int32)) (nk : (Nat → Int32)) : Option Int32 :=
  (jx_iter (pf_X7_cureNow_s1 nr nh ns nk) jx_F (0 : Int32)).bind fun k2 => Sum.elim (fun xk2 => some nh) (fun y => some y) k2
def pf_X7_cure (nr : (Nat → Int32)) (nh : Int32) (ns : (Nat → Int32)) (nk : (Nat → Int32)) : Option Int32 :=
  (pf_X7_cureNow nr nh ns nk).bind fun r1 => some r1
def pf_X7_mix (nx : Int64) (p0 : Int64) : Option Int64 :=
  some (((31 : Int64) * nx) + p0)
def pf_X7_isLet (nh : Int32) (nk : (Nat → Int32)) (p0 : Int32) (p1 : Int32) (p2 : Int32) : Option Int32 :=
  (jx_gd (jx_in (((8 : Int32) * p0) + p1) 64)).bind fun _ => (pf_X7_has nh p0).bind fun r1 => (if r1 = 0 then some (0 : Int32) else (pf_X7_has nh p1).bind fun r2 => (if r2 = 0 then some (0 : Int32) else (if (nk ((((8 : Int32) * p0) + p1)).toNatClampNeg) = (-1 : Int32) then some (0 : Int32) else (if p2 ≤ (nk ((((8 : Int32) * p0) + p1)).toNatClampNeg) then some (0 : Int32) else some (1 : Int32)))))
def pf_X7_namesOf_s2 (nh : Int32) (nk : (Nat → Int32)) (s1 : (Int32 × Int32)) : (Int32 × Int32) → Option ((Int32 × Int32) ⊕ Int32) := fun s4 =>
  (if (64 : Int32) ≤ s4.2 then some (.inr s4.1) else (pf_X7_isLet nh nk (s4.2 / (8 : Int32)) (s4.2 - s4.2 / (8 : Int32) * (8 : Int32)) (2 : Int32)).bind fun r7 => ((if r7 = 0 then some (0 : Int32) else (pf_X7_has s1.1 (s4.2 / (8 : Int32))).bind fun r9 => (if r9 = 0 then some (0 : Int32) else some ((1 : Int32) <<< ((s4.2 - s4.2 / (8 : Int32) * (8 : Int32)) &&& 31)))) : Option Int32).bind fun j8 => some (.inl ((s4.1 ||| j8), (s4.2 + (1 : Int32)))))
def pf_X7_namesOf_s1 (nh : Int32) (nk : (Nat → Int32)) : (Int32 × Int32) → Option ((Int32 × Int32) ⊕ Int32) := fun s1 =>
  (if s1.2 = s1.1 then some (.inr s1.1) else (jx_iter (pf_X7_namesOf_s2 nh nk s1) jx_F (s1.1, (0 : Int32))).bind fun k5 => some (.inl (k5, s1.1)))
def pf_X7_namesOf (nh : Int32) (nk : (Nat → Int32)) (p0 : Int32) : Option Int32 :=
  (jx_iter (pf_X7_namesOf_s1 nh nk) jx_F (((1 : Int32) <<< (p0 &&& 31)), (0 : Int32))).bind fun k2 => some (k2 &&& (((1 : Int32) <<< (p0 &&& 31)) ^^^ (-1 : Int32)))
def pf_X7_usersOf_s1 (nh : Int32) (nk : (Nat → Int32)) (p0 : Int32) : (Int32 × Int32) → Option ((Int32 × Int32) ⊕ Int32) := fun s1 =>
  (if (8 : Int32) ≤ s1.2 then some (.inr s1.1) else (pf_X7_has nh s1.2).bind fun r4 => ((if r4 = 0 then some (0 : Int32) else (jx_gd (jx_in (((8 : Int32) * s1.2) + p0) 64)).bind fun _ => (if (nk ((((8 : Int32) * s1.2) + p0)).toNatClampNeg) = (-1 : Int32) then some (0 : Int32) else some (1 : Int32))) : Option Int32).bind fun j5 => some (.inl ((s1.1 + j5), (s1.2 + (1 : Int32)))))
def pf_X7_usersOf (nh : Int32) (nk : (Nat → Int32)) (p0 : Int32) : Option Int32 :=
  (jx_iter (pf_X7_usersOf_s1 nh nk p0) jx_F ((0 : Int32), (0 : Int32))).bind fun k2 => some k2
def pf_X7_partNow (nr : (Nat → Int32)) (nh : Int32) (ns : (Nat → Int32)) (nk : (Nat → Int32)) (p0 : Int32) (p1 : Int32) : Option Int32 :=
  (if p1 = (0 : Int32) then (jx_gd (jx_in p0 8)).bind fun _ => some (ns (p0).toNatClampNeg) else (if p1 = (4 : Int32) then (pf_X7_namesOf nh nk p0).bind fun r1 => some r1 else (if p1 = (5 : Int32) then (pf_X7_usesOf nh nk p0).bind fun r2 => some r2 else (if p1 = (6 : Int32) then (pf_X7_usersOf nh nk p0).bind fun r3 => some r3 else (pf_X7_actsOf nr nh ns nk p0 p1).bind fun r7 => some r7))))
def pf_X7_heldNow_s1 (nr : (Nat → Int32)) (nh : Int32) (ns : (Nat → Int32)) (nk : (Nat → Int32)) (p0 : Int32) (p1 : Int32) : Int32 → Option (Int32 ⊕ Int32) := fun s1 =>
  (if s1 ≤ 0 then some (.inr s1) else (pf_X7_withReach nr ns nk nh p1 s1).bind fun r4 => (pf_X7_has r4 p0).bind fun r5 => (if ¬ r5 = 0 then some (.inr s1) else some (.inl (s1 + (-1 : Int32)))))
def pf_X7_heldNow (nr : (Nat → Int32)) (nh : Int32) (ns : (Nat → Int32)) (nk : (Nat → Int32)) (p0 : Int32) (p1 : Int32) : Option Int32 :=
  (jx_iter (pf_X7_heldNow_s1 nr nh ns nk p0 p1) jx_F (3 : Int32)).bind fun k2 => some k2
def pf_X7_mixPart_s1 (nr : (Nat → Int32)) (nh : Int32) (ns : (Nat → Int32)) (nk : (Nat → Int32)) (p0 : Int32) : (Int32 × Int64) → Option ((Int32 × Int64) ⊕ Int64) := fun s2 =>
  (if (7 : Int32) ≤ s2.1 then some (.inr s2.2) else (pf_X7_partNow nr nh ns nk p0 s2.1).bind fun r5 => (pf_X7_mix s2.2 (r5).toInt64).bind fun r6 => some (.inl ((s2.1 + (1 : Int32)), r6)))
def pf_X7_mixPart_s2 (nr : (Nat → Int32)) (nh : Int32) (ns : (Nat → Int32)) (nk : (Nat → Int32)) (p0 : Int32) : (Int32 × Int64) → Option ((Int32 × Int64) ⊕ Int64) := fun s7 =>
  (if (12 : Int32) ≤ s7.1 then some (.inr s7.2) else (pf_X7_heldNow nr nh ns nk p0 s7.1).bind fun r10 => (pf_X7_mix s7.2 (r10).toInt64).bind fun r11 => some (.inl ((s7.1 + (1 : Int32)), r11)))
def pf_X7_mixPart_s3 (nh : Int32) (nk : (Nat → Int32)) (p0 : Int32) : (Int32 × Int64) → Option ((Int32 × Int64) ⊕ Int64) := fun s12 =>
  (if (8 : Int32) ≤ s12.1 then some (.inr s12.2) else (pf_X7_has nh s12.1).bind fun r15 => ((if r15 = 0 then some s12.2 else (jx_gd (jx_in (((8 : Int32) * p0) + s12.1) 64)).bind fun _ => (pf_X7_mix s12.2 ((nk ((((8 : Int32) * p0) + s12.1)).toNatClampNeg)).toInt64).bind fun r17 => some r17) : Option Int64).bind fun j16 => some (.inl ((s12.1 + (1 : Int32)), j16)))
def pf_X7_mixPart (nr : (Nat → Int32)) (nh : Int32) (ns : (Nat → Int32)) (nk : (Nat → Int32)) (nx : Int64) (p0 : Int32) : Option Int64 :=
  (pf_X7_mix nx (p0).toInt64).bind fun r1 => (jx_iter (pf_X7_mixPart_s1 nr nh ns nk p0) jx_F ((0 : Int32), r1)).bind fun k3 => (jx_iter (pf_X7_mixPart_s2 nr nh ns nk p0) jx_F ((0 : Int32), k3)).bind fun k8 => (jx_iter (pf_X7_mixPart_s3 nh nk p0) jx_F ((0 : Int32), k8)).bind fun k13 => some k13
def pf_X7_digest_s1 (nt : Int32) (nr : (Nat → Int32)) : (Int32 × Int64) → Option ((Int32 × Int64) ⊕ Int64) := fun s1 =>
  (if ((12 : Int32) * nt) ≤ s1.1 then some (.inr s1.2) else (jx_gd (jx_in s1.1 108)).bind fun _ => (pf_X7_mix s1.2 ((nr (s1.1).toNatClampNeg)).toInt64).bind fun r4 => some (.inl ((s1.1 + (1 : Int32)), r4)))
def pf_X7_digest_s2 (nr : (Nat → Int32)) (nh : Int32) (ns : (Nat → Int32)) (nk : (Nat → Int32)) : (Int32 × Int64) → Option ((Int32 × Int64) ⊕ Int64) := fun s5 =>
  (if (8 : Int32) ≤ s5.1 then some (.inr s5.2) else (pf_X7_has nh s5.1).bind fun r8 => ((if r8 = 0 then some s5.2 else (pf_X7_mixPart nr nh ns nk s5.2 s5.1).bind fun r10 => some r10) : Option Int64).bind fun j9 => some (.inl ((s5.1 + (1 : Int32)), j9)))
def pf_X7_digest_s3 (nr : (Nat → Int32)) (nh : Int32) (ns : (Nat → Int32)) (nk : (Nat → Int32)) (r11 : (Int32 × (Nat → Int32))) : (Int32 × Int64) → Option ((Int32 × Int64) ⊕ Int64) := fun s12 =>
  (if r11.1 ≤ s12.1 then some (.inr s12.2) else (jx_gd (jx_in s12.1 48)).bind fun _ => (pf_X7_mix s12.2 ((r11.2 (s12.1).toNatClampNeg)).toInt64).bind fun r15 => (jx_gd (jx_in s12.1 48)).bind fun _ => (jx_gd (jx_in s12.1 48)).bind fun _ => (pf_X7_causeNow nr nh ns nk ((r11.2 (s12.1).toNatClampNeg) / (6 : Int32)) ((r11.2 (s12.1).toNatClampNeg) - (r11.2 (s12.1).toNatClampNeg) / (6 : Int32) * (6 : Int32))).bind fun r16 => (pf_X7_mix r15 (r16).toInt64).bind fun r17 => some (.inl ((s12.1 + (1 : Int32)), r17)))
def pf_X7_digest_s4 (nl : Int32) (np : (Nat → Int32)) : (Int32 × Int64) → Option ((Int32 × Int64) ⊕ Int64) := fun s20 =>
  (if nl ≤ s20.1 then some (.inr s20.2) else (jx_gd (jx_in s20.1 24)).bind fun _ => (pf_X7_mix s20.2 ((np (s20.1).toNatClampNeg)).toInt64).bind fun r23 => some (.inl ((s20.1 + (1 : Int32)), r23)))
def pf_X7_digest_s5 (nl : Int32) (nt : Int32) (nr : (Nat → Int32)) (nh : Int32) (ns : (Nat → Int32)) (nk : (Nat → Int32)) (ne : Int32) : (Int32 × Int32 × (Nat → Int32) × Int64) → Option ((Int32 × Int32 × (Nat → Int32) × Int64) ⊕ (Int32 × (Nat → Int32) × Int64)) := fun s24 =>
  (if (8 : Int32) ≤ s24.1 then some (.inr (s24.2.1, s24.2.2.1, s24.2.2.2)) else (pf_X7_howMany nl nt nr nh ns nk ne s24.2.1 s24.2.2.1 s24.1).bind fun r27 => (pf_X7_mix s24.2.2.2 (r27.1).toInt64).bind fun r28 => some (.inl ((s24.1 + (1 : Int32)), r27.2.1, r27.2.2, r28)))
def pf_X7_digest (nl : Int32) (np : (Nat → Int32)) (nt : Int32) (nr : (Nat → Int32)) (nh : Int32) (ns : (Nat → Int32)) (nk : (Nat → Int32)) (ne : Int32) (nc : Int32) (ng : (Nat → Int32)) (nx : Int64) : Option (Int64 × Int32 × (Nat → Int32) × Int64) :=
  (jx_iter (pf_X7_digest_s1 nt nr) jx_F ((0 : Int32), (1697 : Int64))).bind fun k2 => (jx_iter (pf_X7_digest_s2 nr nh ns nk) jx_F ((0 : Int32), k2)).bind fun k6 => (pf_X7_layClashes nr nh ns nk nc ng).bind fun r11 => (jx_iter (pf_X7_digest_s3 nr nh ns nk r11) jx_F ((0 : Int32), k6)).bind fun k13 => (pf_X7_cureNow nr nh ns nk).bind fun r18 => (pf_X7_mix k13 (r18).toInt64).bind fun r19 => (jx_iter (pf_X7_digest_s4 nl np) jx_F ((0 : Int32), r19)).bind fun k21 => (jx_iter (pf_X7_digest_s5 nl nt nr nh ns nk ne) jx_F ((0 : Int32), r11.1, r11.2, k21)).bind fun k25 => some (k25.2.2, k25.1, k25.2.1, k25.2.2)
def pf_X7_itemOf (p0 : Int32) : Option Int32 :=
  (pf_X7_within p0 (112 : Int32) (117 : Int32)).bind fun r1 => (if r1 = 0 then (pf_X7_within p0 (80 : Int32) (85 : Int32)).bind fun r2 => (if r2 = 0 then some (-1 : Int32) else some ((p0 - (80 : Int32)) + (6 : Int32))) else some (p0 - (112 : Int32)))
def pf_X7_readPage_s1 : (Int32 × (Nat → Int32)) → Option ((Int32 × (Nat → Int32)) ⊕ (Nat → Int32)) := fun s1 =>
  (if (12 : Int32) ≤ s1.1 then some (.inr s1.2) else (jx_gd (jx_in ((96 : Int32) + s1.1) 108)).bind fun _ => some (.inl ((s1.1 + (1 : Int32)), (upd s1.2 (((96 : Int32) + s1.1)).toNatClampNeg (0 : Int32)))))
def pf_X7_readPage_s2 (nl : Int32) (np : (Nat → Int32)) : (Int32 × Int32 × Int32 × (Nat → Int32)) → Option ((Int32 × Int32 × Int32 × (Nat → Int32)) ⊕ (Int32 × (Nat → Int32))) := fun s4 =>
  (if s4.2.2.1 = 0 then some (.inr (s4.1, s4.2.2.2)) else (if nl ≤ s4.1 then some (.inr (s4.1, s4.2.2.2)) else (jx_gd (jx_in s4.1 24)).bind fun _ => (pf_X7_itemOf (np (s4.1).toNatClampNeg)).bind fun r7 => ((if r7 = (-1 : Int32) then (if s4.2.1 = (-1 : Int32) then some (s4.2.1, (0 : Int32), s4.2.2.2) else (if (np (s4.1).toNatClampNeg) = (43 : Int32) then ((if ¬ (np (s4.1).toNatClampNeg) = (43 : Int32) then some (3 : Int32) else some (2 : Int32)) : Option Int32).bind fun j9 => (jx_gd (jx_in ((96 : Int32) + s4.2.1) 108)).bind fun _ => some ((-1 : Int32), s4.2.2.1, (upd s4.2.2.2 (((96 : Int32) + s4.2.1)).toNatClampNeg j9)) else (if ¬ (np (s4.1).toNatClampNeg) = (42 : Int32) then some (s4.2.1, (0 : Int32), s4.2.2.2) else ((if ¬ (np (s4.1).toNatClampNeg) = (43 : Int32) then some (3 : Int32) else some (2 : Int32)) : Option Int32).bind fun j10 => (jx_gd (jx_in ((96 : Int32) + s4.2.1) 108)).bind fun _ => some ((-1 : Int32), s4.2.2.1, (upd s4.2.2.2 (((96 : Int32) + s4.2.1)).toNatClampNeg j10))))) else (jx_gd (jx_in ((96 : Int32) + r7) 108)).bind fun _ => (if ¬ (s4.2.2.2 (((96 : Int32) + r7)).toNatClampNeg) = 0 then (if s4.2.1 = (-1 : Int32) then some (s4.2.1, (0 : Int32), s4.2.2.2) else (if (np (s4.1).toNatClampNeg) = (43 : Int32) then ((if ¬ (np (s4.1).toNatClampNeg) = (43 : Int32) then some (3 : Int32) else some (2 : Int32)) : Option Int32).bind fun j11 => (jx_gd (jx_in ((96 : Int32) + s4.2.1) 108)).bind fun _ => some ((-1 : Int32), s4.2.2.1, (upd s4.2.2.2 (((96 : Int32) + s4.2.1)).toNatClampNeg j11)) else (if ¬ (np (s4.1).toNatClampNeg) = (42 : Int32) then some (s4.2.1, (0 : Int32), s4.2.2.2) else ((if ¬ (np (s4.1).toNatClampNeg) = (43 : Int32) then some (3 : Int32) else some (2 : Int32)) : Option Int32).bind fun j12 => (jx_gd (jx_in ((96 : Int32) + s4.2.1) 108)).bind fun _ => some ((-1 : Int32), s4.2.2.1, (upd s4.2.2.2 (((96 : Int32) + s4.2.1)).toNatClampNeg j12))))) else (jx_gd (jx_in ((96 : Int32) + r7) 108)).bind fun _ => some (r7, s4.2.2.1, (upd s4.2.2.2 (((96 : Int32) + r7)).toNatClampNeg (1 : Int32))))) : Option (Int32 × Int32 × (Nat → Int32))).bind fun j8 => ((if j8.2.1 = 0 then some (0 : Int32) else some (1 : Int32)) : Option Int32).bind fun j13 => some (.inl ((s4.1 + j13), j8.1, j8.2.1, j8.2.2))))
def pf_X7_readPage (nl : Int32) (np : (Nat → Int32)) (nr : (Nat → Int32)) : Option (Int32 × (Nat → Int32)) :=
  (jx_iter (pf_X7_readPage_s1) jx_F ((0 : Int32), nr)).bind fun k2 => (jx_iter (pf_X7_readPage_s2 nl np) jx_F ((0 : Int32), (-1 : Int32), (1 : Int32), k2)).bind fun k5 => some (k5.1, k5.2)
def pf_X7_fault (nl : Int32) (np : (Nat → Int32)) (nr : (Nat → Int32)) : Option (Int32 × (Nat → Int32)) :=
  (pf_X7_readPage nl np nr).bind fun r1 => some (r1.1, r1.2)
def pf_X7_isTerms (nt : Int32) (p0 : Int32) : Option Int32 :=
  (pf_X7_within p0 (0 : Int32) (nt - (1 : Int32))).bind fun r1 => (jx_gd (decide (r1 = 0 ∨ r1 = 1))).bind fun _ => some r1
def pf_X7_give (nt : Int32) (nh : Int32) (ns : (Nat → Int32)) (p0 : Int32) (p1 : Int32) : Option (Int32 × (Nat → Int32)) :=
  (pf_X7_isPart nh p0).bind fun r1 => (if r1 = 0 then some ((-1001 : Int32), ns) else (pf_X7_isTerms nt p1).bind fun r2 => (if ¬ r2 = 0 then (jx_gd (jx_in p0 8)).bind fun _ => (jx_gd (jx_in p0 8)).bind fun _ => some ((ns (p0).toNatClampNeg), (upd ns (p0).toNatClampNeg p1)) else some ((-1001 : Int32), ns)))
def pf_X7_held (nr : (Nat → Int32)) (nh : Int32) (ns : (Nat → Int32)) (nk : (Nat → Int32)) (p0 : Int32) (p1 : Int32) : Option Int32 :=
  (pf_X7_isPart nh p0).bind fun r1 => (if ¬ r1 = 0 then (pf_X7_within p1 (0 : Int32) (11 : Int32)).bind fun r2 => (if r2 = 0 then some (-1002 : Int32) else (pf_X7_heldNow nr nh ns nk p0 p1).bind fun r3 => some r3) else some (-1001 : Int32))
def pf_X7_isLooser_s1 (nr : (Nat → Int32)) (p0 : Int32) (p1 : Int32) : (Int32 × Int32) → Option ((Int32 × Int32) ⊕ Int32) := fun s1 =>
  (if (12 : Int32) ≤ s1.2 then some (.inr s1.1) else ((if s1.1 = 0 then some (0 : Int32) else (jx_gd (jx_in (((12 : Int32) * p0) + s1.2) 108)).bind fun _ => (jx_gd (jx_in (((12 : Int32) * p1) + s1.2) 108)).bind fun _ => (if (nr ((((12 : Int32) * p1) + s1.2)).toNatClampNeg) < (nr ((((12 : Int32) * p0) + s1.2)).toNatClampNeg) then some (0 : Int32) else some (1 : Int32))) : Option Int32).bind fun j4 => some (.inl (j4, (s1.2 + (1 : Int32)))))
def pf_X7_isLooser (nr : (Nat → Int32)) (p0 : Int32) (p1 : Int32) : Option Int32 :=
  (jx_iter (pf_X7_isLooser_s1 nr p0 p1) jx_F ((1 : Int32), (0 : Int32))).bind fun k2 => (jx_gd (decide (k2 = 0 ∨ k2 = 1))).bind fun _ => some k2
def pf_X7_join (nh : Int32) (nk : (Nat → Int32)) (p0 : Int32) (p1 : Int32) (p2 : Int32) : Option (Int32 × (Nat → Int32)) :=
  (pf_X7_isPart nh p0).bind fun r1 => (if r1 = 0 then some ((-1001 : Int32), nk) else (pf_X7_isPart nh p1).bind fun r2 => (if r2 = 0 then some ((-1001 : Int32), nk) else (if ¬ p0 = p1 then (pf_X7_within p2 (-1 : Int32) (3 : Int32)).bind fun r3 => (if ¬ r3 = 0 then (jx_gd (jx_in (((8 : Int32) * p0) + p1) 64)).bind fun _ => (jx_gd (jx_in (((8 : Int32) * p0) + p1) 64)).bind fun _ => some ((nk ((((8 : Int32) * p0) + p1)).toNatClampNeg), (upd nk ((((8 : Int32) * p0) + p1)).toNatClampNeg p2)) else some ((-1002 : Int32), nk)) else some ((-1001 : Int32), nk))))
def pf_X7_kind (nh : Int32) (nk : (Nat → Int32)) (p0 : Int32) (p1 : Int32) : Option Int32 :=
  (pf_X7_isPart nh p0).bind fun r1 => (if r1 = 0 then some (-1001 : Int32) else (pf_X7_isPart nh p1).bind fun r2 => (if r2 = 0 then some (-1001 : Int32) else (jx_gd (jx_in (((8 : Int32) * p0) + p1) 64)).bind fun _ => some (nk ((((8 : Int32) * p0) + p1)).toNatClampNeg)))
def pf_X7_layFar_s1 (nr : (Nat → Int32)) (nh : Int32) (ns : (Nat → Int32)) (p0 : Int32) (p1 : Int32) : (Int32 × (Nat → Int32)) → Option ((Int32 × (Nat → Int32)) ⊕ (Nat → Int32)) := fun s1 =>
  (if (8 : Int32) ≤ s1.1 then some (.inr s1.2) else (pf_X7_has nh s1.1).bind fun r4 => ((if r4 = 0 then some (8 : Int32) else (pf_X7_ownReach nr ns s1.1 p0).bind fun r6 => (if ¬ r6 = p1 then some (8 : Int32) else some (0 : Int32))) : Option Int32).bind fun j5 => (jx_gd (jx_in s1.1 8)).bind fun _ => some (.inl ((s1.1 + (1 : Int32)), (upd s1.2 (s1.1).toNatClampNeg j5))))
def pf_X7_layFar_s3 (nh : Int32) (nk : (Nat → Int32)) (p1 : Int32) : (Int32 × (Nat → Int32)) → Option ((Int32 × (Nat → Int32)) ⊕ (Nat → Int32)) := fun s10 =>
  (if (64 : Int32) ≤ s10.1 then some (.inr s10.2) else (pf_X7_isLet nh nk (s10.1 / (8 : Int32)) (s10.1 - s10.1 / (8 : Int32) * (8 : Int32)) p1).bind fun r13 => ((if r13 = 0 then some s10.2 else (jx_gd (jx_in (s10.1 - s10.1 / (8 : Int32) * (8 : Int32)) 8)).bind fun _ => (jx_gd (jx_in (s10.1 / (8 : Int32)) 8)).bind fun _ => (if (s10.2 ((s10.1 / (8 : Int32))).toNatClampNeg) ≤ ((s10.2 ((s10.1 - s10.1 / (8 : Int32) * (8 : Int32))).toNatClampNeg) + (1 : Int32)) then some s10.2 else (jx_gd (jx_in (s10.1 - s10.1 / (8 : Int32) * (8 : Int32)) 8)).bind fun _ => (jx_gd (jx_in (s10.1 / (8 : Int32)) 8)).bind fun _ => some (upd s10.2 ((s10.1 / (8 : Int32))).toNatClampNeg ((s10.2 ((s10.1 - s10.1 / (8 : Int32) * (8 : Int32))).toNatClampNeg) + (1 : Int32))))) : Option (Nat → Int32)).bind fun j14 => some (.inl ((s10.1 + (1 : Int32)), j14)))
def pf_X7_layFar_s2 (nh : Int32) (nk : (Nat → Int32)) (p1 : Int32) : (Int32 × (Nat → Int32)) → Option ((Int32 × (Nat → Int32)) ⊕ (Nat → Int32)) := fun s7 =>
  (if (8 : Int32) ≤ s7.1 then some (.inr s7.2) else (jx_iter (pf_X7_layFar_s3 nh nk p1) jx_F ((0 : Int32), s7.2)).bind fun k11 => some (.inl ((s7.1 + (1 : Int32)), k11)))
def pf_X7_layFar (nr : (Nat → Int32)) (nh : Int32) (ns : (Nat → Int32)) (nk : (Nat → Int32)) (nf : (Nat → Int32)) (p0 : Int32) (p1 : Int32) : Option (Nat → Int32) :=
  (jx_iter (pf_X7_layFar_s1 nr nh ns p0 p1) jx_F ((0 : Int32), nf)).bind fun k2 => (jx_iter (pf_X7_layFar_s2 nh nk p1) jx_F ((0 : Int32), k2)).bind fun k8 => some k8
def pf_X7_layWay_s2 (nh : Int32) (nk : (Nat → Int32)) (r1 : Int32) (r2 : (Nat → Int32)) (s3 : (Int32 × Int32 × (Nat → Int32))) : Int32 → Option (Int32 ⊕ Int32) := fun s6 =>
  (pf_X7_isLet nh nk s3.1 s6 r1).bind fun r9 => (if r9 = 0 then some (.inl (s6 + (1 : Int32))) else (jx_gd (jx_in s6 8)).bind fun _ => (jx_gd (jx_in s3.1 8)).bind fun _ => (if ((r2 (s6).toNatClampNeg) + (1 : Int32)) = (r2 (s3.1).toNatClampNeg) then some (.inr s6) else some (.inl (s6 + (1 : Int32)))))
def pf_X7_layWay_s1 (nh : Int32) (nk : (Nat → Int32)) (r1 : Int32) (r2 : (Nat → Int32)) : (Int32 × Int32 × (Nat → Int32)) → Option ((Int32 × Int32 × (Nat → Int32)) ⊕ (Int32 × (Nat → Int32))) := fun s3 =>
  (jx_gd (jx_in s3.1 8)).bind fun _ => (if (r2 (s3.1).toNatClampNeg) ≤ 0 then some (.inr (s3.2.1, s3.2.2)) else (jx_iter (pf_X7_layWay_s2 nh nk r1 r2 s3) jx_F (0 : Int32)).bind fun k7 => (jx_gd (jx_in s3.2.1 8)).bind fun _ => some (.inl (k7, (s3.2.1 + (1 : Int32)), (upd s3.2.2 (s3.2.1).toNatClampNeg k7))))
def pf_X7_layWay (nr : (Nat → Int32)) (nh : Int32) (ns : (Nat → Int32)) (nk : (Nat → Int32)) (nw : Int32) (na : (Nat → Int32)) (nf : (Nat → Int32)) (p0 : Int32) (p1 : Int32) : Option (Int32 × (Nat → Int32) × (Nat → Int32)) :=
  (pf_X7_heldNow nr nh ns nk p0 p1).bind fun r1 => (if ¬ r1 = 0 then (pf_X7_layFar nr nh ns nk nf p1 r1).bind fun r2 => (jx_gd (jx_in (0 : Int32) 8)).bind fun _ => (jx_iter (pf_X7_layWay_s1 nh nk r1 r2) jx_F (p0, (1 : Int32), (upd na ((0 : Int32)).toNatClampNeg p0))).bind fun k4 => some (k4.1, k4.2, r2) else some ((0 : Int32), na, nf))
def pf_X7_leave (nh : Int32) (nk : (Nat → Int32)) (ne : Int32) (p0 : Int32) : Option (Int32 × Int32 × Int32) :=
  (pf_X7_isPart nh p0).bind fun r1 => (if ¬ r1 = 0 then (pf_X7_usesOf nh nk p0).bind fun r2 => (pf_X7_usersOf nh nk p0).bind fun r3 => some ((r2 + r3), (nh &&& (((1 : Int32) <<< (p0 &&& 31)) ^^^ (-1 : Int32))), (ne + (1 : Int32))) else some ((-1001 : Int32), nh, ne))
def pf_X7_letter (nl : Int32) (np : (Nat → Int32)) (p0 : Int32) : Option (Int32 × Int32 × (Nat → Int32)) :=
  (pf_X7_within p0 (32 : Int32) (126 : Int32)).bind fun r1 => (if ¬ r1 = 0 then (if ¬ nl = (24 : Int32) then (jx_gd (jx_in nl 24)).bind fun _ => some ((nl + (1 : Int32)), (nl + (1 : Int32)), (upd np (nl).toNatClampNeg p0)) else some ((-1004 : Int32), nl, np)) else some ((-1002 : Int32), nl, np))
def pf_X7_likeRead_s2 (nr : (Nat → Int32)) (p0 : Int32) (s1 : Int32) : (Int32 × Int32) → Option ((Int32 × Int32) ⊕ Int32) := fun s4 =>
  (if (12 : Int32) ≤ s4.2 then some (.inr s4.1) else ((if s4.1 = 0 then some (0 : Int32) else (jx_gd (jx_in (((12 : Int32) * s1) + s4.2) 108)).bind fun _ => (jx_gd (jx_in (p0 + s4.2) 108)).bind fun _ => (if ¬ (nr ((((12 : Int32) * s1) + s4.2)).toNatClampNeg) = (nr ((p0 + s4.2)).toNatClampNeg) then some (0 : Int32) else some (1 : Int32))) : Option Int32).bind fun j7 => some (.inl (j7, (s4.2 + (1 : Int32)))))
def pf_X7_likeRead_s1 (nt : Int32) (nr : (Nat → Int32)) (p0 : Int32) : Int32 → Option (Int32 ⊕ (Unit ⊕ Int32)) := fun s1 =>
  (if nt ≤ s1 then some (.inr (.inl ())) else (jx_iter (pf_X7_likeRead_s2 nr p0 s1) jx_F ((1 : Int32), (0 : Int32))).bind fun k5 => (if k5 = 0 then some (.inl (s1 + (1 : Int32))) else some (.inr (.inr s1))))
def pf_X7_likeRead (nt : Int32) (nr : (Nat → Int32)) (p0 : Int32) : Option Int32 :=
  (jx_iter (pf_X7_likeRead_s1 nt nr p0) jx_F (0 : Int32)).bind fun k2 => Sum.elim (fun xk2 => some (-1 : Int32)) (fun y => some y) k2
def pf_X7_of (nr : (Nat → Int32)) (nh : Int32) (ns : (Nat → Int32)) (nk : (Nat → Int32)) (p0 : Int32) (p1 : Int32) : Option Int32 :=
  (pf_X7_isPart nh p0).bind fun r1 => (if ¬ r1 = 0 then (pf_X7_within p1 (0 : Int32) (6 : Int32)).bind fun r2 => (if r2 = 0 then some (-1002 : Int32) else (pf_X7_partNow nr nh ns nk p0 p1).bind fun r3 => some r3) else some (-1001 : Int32))
def pf_X7_part_s1 (nh : Int32) : Int32 → Option (Int32 ⊕ Int32) := fun s2 =>
  (pf_X7_has nh s2).bind fun r5 => (if r5 = 0 then some (.inr s2) else some (.inl (s2 + (1 : Int32))))
def pf_X7_part_s2 (k3 : Int32) : (Int32 × (Nat → Int32)) → Option ((Int32 × (Nat → Int32)) ⊕ (Nat → Int32)) := fun s6 =>
  (if (8 : Int32) ≤ s6.1 then some (.inr s6.2) else (jx_gd (jx_in (((8 : Int32) * k3) + s6.1) 64)).bind fun _ => (jx_gd (jx_in (((8 : Int32) * s6.1) + k3) 64)).bind fun _ => some (.inl ((s6.1 + (1 : Int32)), (upd (upd s6.2 ((((8 : Int32) * k3) + s6.1)).toNatClampNeg (-1 : Int32)) ((((8 : Int32) * s6.1) + k3)).toNatClampNeg (-1 : Int32)))))
def pf_X7_part (nt : Int32) (nh : Int32) (ns : (Nat → Int32)) (nk : (Nat → Int32)) (p0 : Int32) : Option (Int32 × Int32 × (Nat → Int32) × (Nat → Int32)) :=
  (pf_X7_isTerms nt p0).bind fun r1 => (if ¬ r1 = 0 then (if ¬ nh = (255 : Int32) then (jx_iter (pf_X7_part_s1 nh) jx_F (0 : Int32)).bind fun k3 => (jx_gd (jx_in k3 8)).bind fun _ => (jx_iter (pf_X7_part_s2 k3) jx_F ((0 : Int32), nk)).bind fun k7 => some (k3, (nh ||| ((1 : Int32) <<< (k3 &&& 31))), (upd ns (k3).toNatClampNeg p0), k7) else some ((-1004 : Int32), nh, ns, nk)) else some ((-1001 : Int32), nh, ns, nk))
def pf_X7_puts_s1 (p0 : Int32) (p1 : Int32) (p2 : Int32) : (Int32 × (Nat → Int32)) → Option ((Int32 × (Nat → Int32)) ⊕ (Nat → Int32)) := fun s1 =>
  (if (12 : Int32) ≤ s1.1 then some (.inr s1.2) else (jx_gd (jx_in (((12 : Int32) * p0) + s1.1) 108)).bind fun _ => (jx_gd (jx_in (((12 : Int32) * p1) + s1.1) 108)).bind fun _ => ((if (s1.2 ((((12 : Int32) * p0) + s1.1)).toNatClampNeg) ≤ (s1.2 ((((12 : Int32) * p1) + s1.1)).toNatClampNeg) then some (0 : Int32) else some (1 : Int32)) : Option Int32).bind fun j4 => ((if ¬ j4 = p2 then some (s1.2 ((((12 : Int32) * p1) + s1.1)).toNatClampNeg) else some (s1.2 ((((12 : Int32) * p0) + s1.1)).toNatClampNeg)) : Option Int32).bind fun j5 => (jx_gd (jx_in ((96 : Int32) + s1.1) 108)).bind fun _ => some (.inl ((s1.1 + (1 : Int32)), (upd s1.2 (((96 : Int32) + s1.1)).toNatClampNeg j5))))
def pf_X7_puts (nt : Int32) (nr : (Nat → Int32)) (p0 : Int32) (p1 : Int32) (p2 : Int32) : Option (Int32 × (Nat → Int32)) :=
  (jx_iter (pf_X7_puts_s1 p0 p1 p2) jx_F ((0 : Int32), nr)).bind fun k2 => (pf_X7_likeRead nt k2 (96 : Int32)).bind fun r6 => some (r6, k2)
def pf_X7_reach (nt : Int32) (nr : (Nat → Int32)) (p0 : Int32) (p1 : Int32) : Option Int32 :=
  (pf_X7_isTerms nt p0).bind fun r1 => (if ¬ r1 = 0 then (pf_X7_within p1 (0 : Int32) (11 : Int32)).bind fun r2 => (if r2 = 0 then some (-1002 : Int32) else (jx_gd (jx_in (((12 : Int32) * p0) + p1) 108)).bind fun _ => some (nr ((((12 : Int32) * p0) + p1)).toNatClampNeg)) else some (-1001 : Int32))
def pf_X7_terms_s1 (nt : Int32) : (Int32 × (Nat → Int32)) → Option ((Int32 × (Nat → Int32)) ⊕ (Nat → Int32)) := fun s3 =>
  (if (12 : Int32) ≤ s3.1 then some (.inr s3.2) else (jx_gd (jx_in ((96 : Int32) + s3.1) 108)).bind fun _ => (jx_gd (jx_in (((12 : Int32) * nt) + s3.1) 108)).bind fun _ => some (.inl ((s3.1 + (1 : Int32)), (upd s3.2 ((((12 : Int32) * nt) + s3.1)).toNatClampNeg (s3.2 (((96 : Int32) + s3.1)).toNatClampNeg)))))
def pf_X7_terms_s2 (nt : Int32) : (Int32 × (Nat → Int32)) → Option ((Int32 × (Nat → Int32)) ⊕ (Nat → Int32)) := fun s6 =>
  (if (12 : Int32) ≤ s6.1 then some (.inr s6.2) else (jx_gd (jx_in ((96 : Int32) + s6.1) 108)).bind fun _ => (jx_gd (jx_in (((12 : Int32) * nt) + s6.1) 108)).bind fun _ => some (.inl ((s6.1 + (1 : Int32)), (upd s6.2 ((((12 : Int32) * nt) + s6.1)).toNatClampNeg (s6.2 (((96 : Int32) + s6.1)).toNatClampNeg)))))
def pf_X7_terms (nl : Int32) (np : (Nat → Int32)) (nt : Int32) (nr : (Nat → Int32)) : Option (Int32 × Int32 × Int32 × (Nat → Int32)) :=
  (if nl = 0 then some ((-1003 : Int32), nl, nt, nr) else (pf_X7_readPage nl np nr).bind fun r1 => (if nl ≤ r1.1 then (pf_X7_likeRead nt r1.2 (96 : Int32)).bind fun r2 => (if ¬ r2 = (-1 : Int32) then (if r2 = (-1 : Int32) then (jx_iter (pf_X7_terms_s1 nt) jx_F ((0 : Int32), r1.2)).bind fun k4 => some (((nt + (1 : Int32)) - (1 : Int32)), (0 : Int32), (nt + (1 : Int32)), k4) else some (r2, (0 : Int32), nt, r1.2)) else (if ¬ nt = (8 : Int32) then (if r2 = (-1 : Int32) then (jx_iter (pf_X7_terms_s2 nt) jx_F ((0 : Int32), r1.2)).bind fun k7 => some (((nt + (1 : Int32)) - (1 : Int32)), (0 : Int32), (nt + (1 : Int32)), k7) else some (r2, (0 : Int32), nt, r1.2)) else some ((-1004 : Int32), nl, nt, r1.2))) else some ((-1003 : Int32), nl, nt, r1.2)))
def pf_X7_two (nt : Int32) (nr : (Nat → Int32)) (p0 : Int32) (p1 : Int32) (p2 : Int32) : Option (Int32 × (Nat → Int32)) :=
  (pf_X7_isTerms nt p0).bind fun r1 => (if r1 = 0 then some ((-1001 : Int32), nr) else (pf_X7_isTerms nt p1).bind fun r2 => (if ¬ r2 = 0 then (pf_X7_within p2 (0 : Int32) (2 : Int32)).bind fun r3 => (if ¬ r3 = 0 then (if ¬ p2 = 0 then ((if ¬ p2 = (1 : Int32) then some (0 : Int32) else some (1 : Int32)) : Option Int32).bind fun j4 => (pf_X7_puts nt nr p0 p1 j4).bind fun r5 => some (r5.1, r5.2) else (pf_X7_isLooser nr p0 p1).bind fun r6 => ((if r6 = 0 then some (0 : Int32) else some (1 : Int32)) : Option Int32).bind fun j7 => (pf_X7_isLooser nr p1 p0).bind fun r8 => ((if r8 = 0 then some (0 : Int32) else some (2 : Int32)) : Option Int32).bind fun j9 => some ((j7 + j9), nr)) else some ((-1002 : Int32), nr)) else some ((-1001 : Int32), nr)))
def pf_X7_way (nr : (Nat → Int32)) (nh : Int32) (ns : (Nat → Int32)) (nk : (Nat → Int32)) (nw : Int32) (na : (Nat → Int32)) (nf : (Nat → Int32)) (p0 : Int32) (p1 : Int32) (p2 : Int32) : Option (Int32 × Int32 × (Nat → Int32) × (Nat → Int32)) :=
  (pf_X7_isPart nh p0).bind fun r1 => (if ¬ r1 = 0 then (pf_X7_within p1 (0 : Int32) (11 : Int32)).bind fun r2 => (if ¬ r2 = 0 then (pf_X7_layWay nr nh ns nk nw na nf p0 p1).bind fun r3 => (pf_X7_within p2 (0 : Int32) (r3.1 - (1 : Int32))).bind fun r4 => (if r4 = 0 then some ((-1 : Int32), r3.1, r3.2.1, r3.2.2) else (jx_gd (jx_in p2 8)).bind fun _ => some ((r3.2.1 (p2).toNatClampNeg), r3.1, r3.2.1, r3.2.2)) else some ((-1002 : Int32), nw, na, nf)) else some ((-1001 : Int32), nw, na, nf))
end
section
/-! bits of ints and longs (the family 'bt' began as a text of the kit's laws/BITS) -/
def bt (x : Int32) (i : Nat) : Bool := x.toBitVec.getLsbD i
theorem b_ext {x y : Int32} (h : ∀ i, i < 32 → bt x i = bt y i) : x = y := Int32.toBitVec_inj.mp (BitVec.eq_of_getLsbD_eq (fun i hi => h i hi))
theorem b_or (x y : Int32) (i : Nat) : bt (x ||| y) i = (bt x i || bt y i) := by unfold bt; rw [Int32.toBitVec_or, BitVec.getLsbD_or]
theorem b_and (x y : Int32) (i : Nat) : bt (x &&& y) i = (bt x i && bt y i) := by unfold bt; rw [Int32.toBitVec_and, BitVec.getLsbD_and]
theorem b_xor (x y : Int32) (i : Nat) : bt (x ^^^ y) i = (bt x i ^^ bt y i) := by unfold bt; rw [Int32.toBitVec_xor, BitVec.getLsbD_xor]
theorem b_big {x : Int32} {i : Nat} (h : 32 ≤ i) : bt x i = false := BitVec.getLsbD_of_ge _ _ h
theorem b_m1 : ∀ i, i < 32 → bt (-1) i = true := by decide +kernel
theorem b_0 (i : Nat) : bt 0 i = false := BitVec.getLsbD_zero
theorem s_l : ∀ n, n < 32 → ((nI n &&& 31).toBitVec.smod 32).toNat = n := by decide +kernel
theorem b_shl (n : Nat) (hn : n < 32) (x : Int32) {i : Nat} (hi : i < 32) : bt (x <<< (nI n &&& 31)) i = (decide (n ≤ i) && bt x (i - n)) := by
  unfold bt
  rw [Int32.toBitVec_shiftLeft]
  show (x.toBitVec <<< ((nI n &&& 31).toBitVec.smod 32).toNat).getLsbD i = _
  rw [s_l n hn, BitVec.getLsbD_shiftLeft]
  rcases Nat.lt_or_ge i n with h | h
  · simp [h, Nat.not_le.mpr h]
  · simp [hi, h, Nat.not_lt.mpr h]
theorem b_sshr (n : Nat) (hn : n < 32) (x : Int32) {i : Nat} (hi : i < 32) : bt (x >>> (nI n &&& 31)) i = if n + i < 32 then bt x (n + i) else bt x 31 := by
  unfold bt
  rw [Int32.toBitVec_shiftRight]
  show (x.toBitVec.sshiftRight ((nI n &&& 31).toBitVec.smod 32).toNat).getLsbD i = _
  rw [s_l n hn, BitVec.getLsbD_sshiftRight, BitVec.msb_eq_getLsbD_last]
  simp [hi]
theorem b_nI (n : Nat) {i : Nat} (hi : i < 32) : bt (nI n) i = n.testBit i := by
  show (BitVec.ofNat 32 n).getLsbD i = _
  rw [BitVec.getLsbD_ofNat]; simp [hi]
theorem b_1 {i : Nat} (hi : i < 32) : bt 1 i = decide (i = 0) := (by decide +kernel : ∀ i, i < 32 → bt 1 i = decide (i = 0)) i hi
theorem b_one (n : Nat) (hn : n < 32) {i : Nat} (hi : i < 32) : bt ((1 : Int32) <<< (nI n &&& 31)) i = decide (i = n) := by
  rw [b_shl n hn _ hi, b_1 (by omega)]
  rcases Nat.lt_trichotomy i n with h | h | h
  · simp [show ¬ n ≤ i by omega, show ¬ i = n by omega]
  · subst h; simp
  · simp [show ¬ i - n = 0 by omega, show ¬ i = n by omega]
def bl (x : Int64) (i : Nat) : Bool := x.toBitVec.getLsbD i
theorem l_ext {x y : Int64} (h : ∀ i, i < 64 → bl x i = bl y i) : x = y := Int64.toBitVec_inj.mp (BitVec.eq_of_getLsbD_eq (fun i hi => h i hi))
theorem l_or (x y : Int64) (i : Nat) : bl (x ||| y) i = (bl x i || bl y i) := by unfold bl; rw [Int64.toBitVec_or, BitVec.getLsbD_or]
theorem l_and (x y : Int64) (i : Nat) : bl (x &&& y) i = (bl x i && bl y i) := by unfold bl; rw [Int64.toBitVec_and, BitVec.getLsbD_and]
theorem l_xor (x y : Int64) (i : Nat) : bl (x ^^^ y) i = (bl x i ^^ bl y i) := by unfold bl; rw [Int64.toBitVec_xor, BitVec.getLsbD_xor]
theorem l_big {x : Int64} {i : Nat} (h : 64 ≤ i) : bl x i = false := BitVec.getLsbD_of_ge _ _ h
theorem l_0 (i : Nat) : bl 0 i = false := BitVec.getLsbD_zero
theorem l_m1 : ∀ i, i < 64 → bl (-1) i = true := by decide +kernel
theorem l_s : ∀ n, n < 64 → (((nI n).toInt64 &&& 63).toBitVec.smod 64).toNat = n := by decide +kernel
theorem l_shl (n : Nat) (hn : n < 64) (x : Int64) {i : Nat} (hi : i < 64) : bl (x <<< ((nI n).toInt64 &&& 63)) i = (decide (n ≤ i) && bl x (i - n)) := by
  unfold bl
  rw [Int64.toBitVec_shiftLeft]
  show (x.toBitVec <<< (((nI n).toInt64 &&& 63).toBitVec.smod 64).toNat).getLsbD i = _
  rw [l_s n hn, BitVec.getLsbD_shiftLeft]
  rcases Nat.lt_or_ge i n with h | h
  · simp [h, Nat.not_le.mpr h]
  · simp [hi, h, Nat.not_lt.mpr h]
theorem l_sshr (n : Nat) (hn : n < 64) (x : Int64) {i : Nat} (hi : i < 64) : bl (x >>> ((nI n).toInt64 &&& 63)) i = if n + i < 64 then bl x (n + i) else bl x 63 := by
  unfold bl
  rw [Int64.toBitVec_shiftRight]
  show (x.toBitVec.sshiftRight (((nI n).toInt64 &&& 63).toBitVec.smod 64).toNat).getLsbD i = _
  rw [l_s n hn, BitVec.getLsbD_sshiftRight, BitVec.msb_eq_getLsbD_last]
  simp [hi]
theorem l_of (x : Int32) {i : Nat} (hi : i < 64) : bl x.toInt64 i = if i < 32 then bt x i else bt x 31 := by
  unfold bl bt
  rw [Int32.toBitVec_toInt64, BitVec.getLsbD_signExtend, BitVec.msb_eq_getLsbD_last]
  simp [hi]
theorem b_of (x : Int64) {i : Nat} (hi : i < 32) : bt x.toInt32 i = bl x i := by
  unfold bl bt
  rw [Int64.toBitVec_toInt32, BitVec.getLsbD_signExtend]
  simp [hi, show i < 64 by omega]
theorem l_1 {i : Nat} (hi : i < 64) : bl 1 i = decide (i = 0) := (by decide +kernel : ∀ i, i < 64 → bl 1 i = decide (i = 0)) i hi
theorem l_36 {i : Nat} (hi : i < 64) : bl 68719476735 i = decide (i < 36) := (by decide +kernel : ∀ i, i < 64 → bl 68719476735 i = decide (i < 36)) i hi
theorem b_63 {i : Nat} (hi : i < 32) : bt 63 i = decide (i < 6) := (by decide +kernel : ∀ i, i < 32 → bt 63 i = decide (i < 6)) i hi
theorem b_4095 {i : Nat} (hi : i < 32) : bt 4095 i = decide (i < 12) := (by decide +kernel : ∀ i, i < 32 → bt 4095 i = decide (i < 12)) i hi
/-- one bit of a long: (x >> n) & 1 -/
theorem l_bit (n : Nat) (hn : n < 64) (x : Int64) : (x >>> ((nI n).toInt64 &&& 63)) &&& 1 = if bl x n then 1 else 0 := by
  apply l_ext
  intro i hi
  rw [l_and, l_1 hi, l_sshr n hn x hi]
  by_cases h : i = 0
  · subst h
    cases hb : bl x n <;> simp [hn, hb, l_0, l_1 (show 0 < 64 by omega)]
  · cases hb : bl x n <;> simp [h, l_0, l_1 hi]
theorem b_bit (n : Nat) (hn : n < 32) (x : Int32) : (x >>> (nI n &&& 31)) &&& 1 = if bt x n then 1 else 0 := by
  apply b_ext
  intro i hi
  rw [b_and, b_1 hi, b_sshr n hn x hi]
  by_cases h : i = 0
  · subst h
    cases hb : bt x n <;> simp [hn, hb, b_0, b_1 (show 0 < 32 by omega)]
  · cases hb : bt x n <;> simp [h, b_0, b_1 hi]
theorem l_ne {x y : Int64} : (lg_cmp x y = 0) ↔ x = y := lg_cmp_eq x y
/-- a loop by steps: a number that goes up to N, an invariant, an end -/
theorem jx_loop {σ ρ : Type} {step : σ → Option (σ ⊕ ρ)} (inv : Nat → σ → Prop) (post : ρ → Prop) (N : Nat) (h : ∀ i s, i ≤ N → inv i s → (∃ r, step s = some (.inr r) ∧ post r) ∨ (i < N ∧ ∃ s', step s = some (.inl s') ∧ inv (i + 1) s')) : ∀ (F i : Nat) (s : σ), N - i < F → i ≤ N → inv i s → ∃ r, jx_iter step F s = some r ∧ post r := by
  intro F
  induction F with
  | zero => intro i s h1; omega
  | succ F ih =>
    intro i s h1 h2 h3
    rcases h i s h2 h3 with ⟨r, e, hp⟩ | ⟨hl, s', e, hi⟩
    · exact ⟨r, by simp [jx_iter, e], hp⟩
    · obtain ⟨r, e2, hp⟩ := ih (i + 1) s' (by omega) hl hi
      exact ⟨r, by simp [jx_iter, e, e2], hp⟩
theorem jx_loop0 {σ ρ : Type} {step : σ → Option (σ ⊕ ρ)} (inv : Nat → σ → Prop) (post : ρ → Prop) (N : Nat) (hN : N < 4096) (s : σ) (h0 : inv 0 s) (h : ∀ i s, i ≤ N → inv i s → (∃ r, step s = some (.inr r) ∧ post r) ∨ (i < N ∧ ∃ s', step s = some (.inl s') ∧ inv (i + 1) s')) : ∃ r, jx_iter step jx_F s = some r ∧ post r :=
  jx_loop inv post N h jx_F 0 s (by unfold jx_F; omega) (Nat.zero_le _) h0
theorem jx_gt {b : Bool} (h : b = true) : jx_gd b = some () := by rw [h]; rfl
theorem jx_in_nI {k n : Nat} (h : k < n) (hn : n < 2 ^ 31) : jx_in (nI k) n = true := decide_eq_true (nI_in h hn)
end
section
/-! what comes to a part by joins: sets of eight, by rounds -/
def rch (E : Nat → Nat → Bool) (src : Nat → Bool) : Nat → Nat → Bool
  | 0, p => src p
  | n + 1, p => rch E src n p || (List.range 8).any (fun q => E p q && rch E src n q)
theorem rch_S {E : Nat → Nat → Bool} {src : Nat → Bool} {n p : Nat} : rch E src (n + 1) p = true ↔ rch E src n p = true ∨ ∃ q, q < 8 ∧ E p q = true ∧ rch E src n q = true := by
  simp [rch]
theorem rch_up {E : Nat → Nat → Bool} {src : Nat → Bool} {n m p : Nat} (h : n ≤ m) (hr : rch E src n p = true) : rch E src m p = true := by
  induction h with
  | refl => exact hr
  | step _ ih => exact rch_S.mpr (Or.inl ih)
theorem rch_sub {E : Nat → Nat → Bool} {src : Nat → Bool} {X : Nat → Prop} (h0 : ∀ p, src p = true → X p) (hE : ∀ p q, q < 8 → E p q = true → X q → X p) : ∀ n p, rch E src n p = true → X p := by
  intro n
  induction n with
  | zero => intro p h; exact h0 p h
  | succ n ih =>
    intro p h
    rcases rch_S.mp h with h | ⟨q, h1, h2, h3⟩
    · exact ih p h
    · exact hE p q h1 h2 (ih q h3)
def cnt (P : Nat → Bool) : Nat → Nat
  | 0 => 0
  | n + 1 => cnt P n + (if P n = true then 1 else 0)
theorem cnt_le (P : Nat → Bool) (n : Nat) : cnt P n ≤ n := by
  induction n with
  | zero => exact Nat.le_refl 0
  | succ n ih => unfold cnt; split <;> omega
theorem cnt_mono {P Q : Nat → Bool} {n : Nat} (h : ∀ p, p < n → P p = true → Q p = true) : cnt P n ≤ cnt Q n := by
  induction n with
  | zero => exact Nat.le_refl 0
  | succ n ih =>
    have h1 := ih (fun p hp => h p (by omega))
    have h2 := h n (by omega)
    unfold cnt
    cases hp : P n <;> cases hq : Q n <;> simp [hp, hq] at h2 ⊢ <;> omega
theorem cnt_lt {P Q : Nat → Bool} {n p : Nat} (h : ∀ p, p < n → P p = true → Q p = true) (hp : p < n) (hQ : Q p = true) (hP : P p = false) : cnt P n < cnt Q n := by
  induction n with
  | zero => omega
  | succ n ih =>
    have h2 := h n (by omega)
    unfold cnt
    rcases Nat.lt_or_ge p n with hl | hl
    · have h1 := ih (fun p hp => h p (by omega)) hl
      cases hp : P n <;> cases hq : Q n <;> simp [hp, hq] at h2 ⊢ <;> omega
    · have e : p = n := by omega
      subst e
      have h1 := cnt_mono (n := p) (fun q hq => h q (by omega))
      simp [hP, hQ]; omega
theorem cnt_pos {P : Nat → Bool} {n p : Nat} (hp : p < n) (hP : P p = true) : 1 ≤ cnt P n := by
  have := cnt_lt (P := fun _ => false) (Q := P) (n := n) (p := p) (fun _ _ h => by simp at h) hp hP rfl
  omega
theorem rch_fix {E : Nat → Nat → Bool} {src : Nat → Bool} {n : Nat} (h : ∀ p, p < 8 → rch E src (n + 1) p = true → rch E src n p = true) : ∀ m p, p < 8 → rch E src (n + m) p = true → rch E src n p = true := by
  intro m
  induction m with
  | zero => intro p _ h; exact h
  | succ m ih =>
    intro p hp hr
    rcases rch_S.mp (show rch E src (n + m + 1) p = true from hr) with h1 | ⟨q, h1, h2, h3⟩
    · exact ih p hp h1
    · exact h p hp (rch_S.mpr (Or.inr ⟨q, h1, h2, ih q h1 h3⟩))
theorem rch_7 {E : Nat → Nat → Bool} {src : Nat → Bool} {n p : Nat} (hp : p < 8) (hr : rch E src n p = true) : rch E src 7 p = true := by
  by_cases hx : ∃ k, k ≤ 7 ∧ ∀ p, p < 8 → rch E src (k + 1) p = true → rch E src k p = true
  · obtain ⟨k, hk, hf⟩ := hx
    exact rch_up hk (rch_fix hf n p hp (rch_up (by omega) hr))
  · have key : ∀ k, k ≤ 7 → ∃ p, p < 8 ∧ rch E src (k + 1) p = true ∧ rch E src k p = false := by
      intro k hk
      apply Classical.byContradiction
      intro hno
      refine hx ⟨k, hk, fun p hp h1 => ?_⟩
      cases hz : rch E src k p with
      | true => rfl
      | false => exact absurd ⟨p, hp, h1, hz⟩ hno
    have step : ∀ k, k ≤ 7 → cnt (rch E src k) 8 < cnt (rch E src (k + 1)) 8 := by
      intro k hk
      obtain ⟨p, hp, h1, h2⟩ := key k hk
      exact cnt_lt (fun p _ h => rch_up (Nat.le_succ k) h) hp h1 h2
    have c0 : 1 ≤ cnt (rch E src 0) 8 := by
      obtain ⟨p, hp, h1, h2⟩ := key 0 (by omega)
      rcases rch_S.mp h1 with h | ⟨q, hq, _, h3⟩
      · rw [h] at h2; cases h2
      · exact cnt_pos hq h3
    have s0 : cnt (rch E src 0) 8 < cnt (rch E src 1) 8 := step 0 (by omega)
    have s1 : cnt (rch E src 1) 8 < cnt (rch E src 2) 8 := step 1 (by omega)
    have s2 : cnt (rch E src 2) 8 < cnt (rch E src 3) 8 := step 2 (by omega)
    have s3 : cnt (rch E src 3) 8 < cnt (rch E src 4) 8 := step 3 (by omega)
    have s4 : cnt (rch E src 4) 8 < cnt (rch E src 5) 8 := step 4 (by omega)
    have s5 : cnt (rch E src 5) 8 < cnt (rch E src 6) 8 := step 5 (by omega)
    have s6 : cnt (rch E src 6) 8 < cnt (rch E src 7) 8 := step 6 (by omega)
    have s7 : cnt (rch E src 7) 8 < cnt (rch E src 8) 8 := step 7 (by omega)
    have := cnt_le (rch E src 8) 8
    omega
/-- all that comes, at last -/
def cl (E : Nat → Nat → Bool) (src : Nat → Bool) (p : Nat) : Bool := rch E src 7 p
theorem cl_src {E : Nat → Nat → Bool} {src : Nat → Bool} {p : Nat} (h : src p = true) : cl E src p = true := rch_up (n := 0) (by omega) h
theorem cl_E {E : Nat → Nat → Bool} {src : Nat → Bool} {p q : Nat} (hp : p < 8) (hq : q < 8) (hE : E p q = true) (h : cl E src q = true) : cl E src p = true := rch_7 (n := 8) hp (rch_S.mpr (Or.inr ⟨q, hq, hE, h⟩))
theorem cl_sub {E : Nat → Nat → Bool} {src : Nat → Bool} {X : Nat → Prop} (h0 : ∀ p, src p = true → X p) (hE : ∀ p q, q < 8 → E p q = true → X q → X p) {p : Nat} (h : cl E src p = true) : X p := rch_sub h0 hE 7 p h
end
section
/-! small numbers, small methods -/
theorem k0 : (0 : Int32) = nI 0 := rfl
theorem k1 : (1 : Int32) = nI 1 := rfl
theorem k2 : (2 : Int32) = nI 2 := rfl
theorem k3 : (3 : Int32) = nI 3 := rfl
theorem k5 : (5 : Int32) = nI 5 := rfl
theorem k6 : (6 : Int32) = nI 6 := rfl
theorem k7 : (7 : Int32) = nI 7 := rfl
theorem k8 : (8 : Int32) = nI 8 := rfl
theorem k12 : (12 : Int32) = nI 12 := rfl
theorem k24 : (24 : Int32) = nI 24 := rfl
theorem k48 : (48 : Int32) = nI 48 := rfl
theorem k64 : (64 : Int32) = nI 64 := rfl
theorem k256 : (256 : Int32) = nI 256 := rfl
theorem jx_b {α β : Type} (a : α) (f : α → Option β) : (some a).bind f = f a := rfl
theorem jx_g {β : Type} (f : Unit → Option β) {b : Bool} (h : b = true) : (jx_gd b).bind f = f () := by rw [h]; rfl
theorem jx_gk {β : Type} {k n : Nat} (f : Unit → Option β) (h : k < n) (hn : n < 2 ^ 31) : (jx_gd (jx_in (nI k) n)).bind f = f () := jx_g f (jx_in_nI h hn)
theorem n1n0 : ¬ (1 : Int32) = 0 := by decide
theorem nm0 (n : Nat) (h : n < 2 ^ 31) : ¬ nI n = -1 := by
  intro e
  have h1 := nI_toInt h
  rw [e] at h1
  have h2 : (-1 : Int32).toInt = -1 := by decide
  omega
theorem nm1 : ¬ (-1 : Int32) = 0 := by decide
/-- x is outside of 0..n-1, or one of these -/
theorem ix (x : Int32) (n : Nat) (hn : n < 2 ^ 31) : (x < 0 ∨ nI n ≤ x) ∨ ∃ j : Nat, j < n ∧ x = nI j := by
  rcases pk_ix x hn with h | h | h
  · exact Or.inl (Or.inl h)
  · exact Or.inl (Or.inr h)
  · exact Or.inr h
def bi (b : Bool) : Int32 := if b then 1 else 0
theorem bi0 {α : Type} (b : Bool) (x y : α) : (if bi b = 0 then x else y) = if b = true then y else x := by cases b <;> rfl
theorem bin {α : Type} (b : Bool) (x y : α) : (if ¬ bi b = 0 then x else y) = if b = true then x else y := by cases b <;> rfl
theorem ff : ¬ false = true := by decide
theorem z_isSet (x : Int64) {n : Nat} (hn : n < 64) : pf_X6_isSet x (nI n) = some (bi (bl x n)) := by
  unfold pf_X6_isSet
  rw [l_bit n hn x]
  cases bl x n
  · decide
  · decide
theorem z_isSet32 (x : Int32) {n : Nat} (hn : n < 32) : pf_X6_isSet x.toInt64 (nI n) = some (bi (bt x n)) := by
  rw [z_isSet _ (by omega), l_of x (by omega), if_pos hn]
theorem z_has (x : Int32) {n : Nat} (hn : n < 32) : pf_X7_has x (nI n) = some (bi (bt x n)) := by
  unfold pf_X7_has
  rw [b_bit n hn x]
  cases bt x n
  · decide
  · decide
theorem z_xhas (x : Int32) {p : Nat} (hp : p < 8) : pf_X3_has x (nI p) = some (bi (bt x p)) := by
  unfold pf_X3_has
  rw [if_neg (nI_pos (by omega)), k8, if_neg (nI_ge (by omega) (by omega)), z_isSet32 x (by omega), jx_b]
  cases bt x p
  · decide
  · decide
theorem z_xhas_out (x : Int32) {y : Int32} (h : y < 0 ∨ nI 8 ≤ y) : pf_X3_has x y = some 0 := by
  unfold pf_X3_has
  by_cases h0 : y < 0
  · rw [if_pos h0]
  · rw [if_neg h0, k8, if_pos (h.resolve_left h0)]
theorem z_within {y : Int32} {a b n : Nat} (hn : n < 2 ^ 31) (hb : b < 2 ^ 31) (ha : a < 2 ^ 31) (h : y = nI n) : pf_X7_within y (nI a) (nI b) = some (bi (decide (a ≤ n ∧ n ≤ b))) := by
  subst h
  unfold pf_X7_within
  by_cases h1 : n < a
  · rw [if_pos (nI_lt h1 ha), decide_eq_false (by omega)]; rfl
  · rw [if_neg (nI_nlt (by omega) hn)]
    by_cases h2 : b < n
    · rw [if_pos (nI_lt h2 hn), decide_eq_false (by omega)]; rfl
    · rw [if_neg (nI_nlt (by omega) hb), decide_eq_true (by omega)]; rfl
theorem z_mhas (x : Int32) {p : Nat} (hp : p < 8) : pf_X7_isPart x (nI p) = some (bi (bt x p)) := by
  unfold pf_X7_isPart
  rw [k0, k7, z_within (n := p) (by omega) (by omega) (by omega) rfl, decide_eq_true (by omega), jx_b, ← k0, bi0, if_pos rfl, z_has x (by omega), jx_b]
  cases bt x p
  · decide
  · decide
theorem z_mhas_out (x : Int32) {y : Int32} (h : y < 0 ∨ nI 8 ≤ y) : pf_X7_isPart x y = some 0 := by
  unfold pf_X7_isPart pf_X7_within
  by_cases h0 : y < 0
  · rw [if_pos h0, jx_b, if_pos rfl]
  · rw [if_neg h0, if_pos, jx_b, if_pos rfl]
    have h1 := h.resolve_left h0
    rw [Int32.lt_iff_toInt_lt]
    rw [Int32.le_iff_toInt_le, nI_toInt (by omega)] at h1
    have h2 : (7 : Int32).toInt = 7 := by decide
    omega
/-- the greatest row that has the item -/
def gr (x : Int64) (i : Nat) : Nat := if bl x (24 + i) then 3 else if bl x (12 + i) then 2 else if bl x i then 1 else 0
theorem z_greatest (x : Int64) {i : Nat} (hi : i < 12) : pf_X4_greatest x (nI i) = some (nI (gr x i)) := by
  have key : ∀ k, k ≤ 2 → pf_X4_greatest_s1 x (nI i) (nI (k + 1)) = (if bl x (k * 12 + i) then some (.inr (.inr (nI (k + 1)))) else some (.inl (nI k))) := by
    intro k hk
    unfold pf_X4_greatest_s1
    rw [if_neg (by rw [k1, nI_ltI (by omega) (by omega)]; omega), nI_pred, k12, pk_mul, nI_add, z_isSet x (by omega), jx_b, pk_m1]
    cases bl x (k * 12 + i)
    · rfl
    · rfl
  have k0' : pf_X4_greatest_s1 x (nI i) (nI 0) = some (.inr (.inl ())) := by
    unfold pf_X4_greatest_s1
    rw [if_pos (by decide)]
  obtain ⟨r, e, h⟩ := jx_loop0 (step := pf_X4_greatest_s1 x (nI i)) (fun j s => s = nI (3 - j) ∧ ∀ k, 3 - j ≤ k → k ≤ 2 → bl x (k * 12 + i) = false) (fun r => (r = .inl () ∧ gr x i = 0) ∨ r = .inr (nI (gr x i))) 3 (by omega) 3 ⟨rfl, fun k h1 h2 => by omega⟩ (by
    rintro j s hj ⟨rfl, hb⟩
    rcases (show j = 0 ∨ j = 1 ∨ j = 2 ∨ j = 3 by omega) with rfl | rfl | rfl | rfl
    · rw [show 3 - 0 = 2 + 1 by rfl, key 2 (by omega)]
      cases hx : bl x (2 * 12 + i) with
      | true => exact Or.inl ⟨_, rfl, Or.inr (by rw [gr, show 24 + i = 2 * 12 + i by rfl, hx]; rfl)⟩
      | false => exact Or.inr ⟨by omega, _, rfl, rfl, fun k h1 h2 => by rw [show k = 2 by omega]; exact hx⟩
    · have e2 := hb 2 (by omega) (by omega)
      rw [show 3 - 1 = 1 + 1 by rfl, key 1 (by omega)]
      cases hx : bl x (1 * 12 + i) with
      | true => exact Or.inl ⟨_, rfl, Or.inr (by rw [gr, show 24 + i = 2 * 12 + i by rfl, show 12 + i = 1 * 12 + i by rfl, hx, e2]; rfl)⟩
      | false => exact Or.inr ⟨by omega, _, rfl, rfl, fun k h1 h2 => by rcases (show k = 1 ∨ k = 2 by omega) with rfl | rfl; exact hx; exact e2⟩
    · have e2 := hb 2 (by omega) (by omega)
      have e1 := hb 1 (by omega) (by omega)
      rw [show 3 - 2 = 0 + 1 by rfl, key 0 (by omega)]
      cases hx : bl x (0 * 12 + i) with
      | true => exact Or.inl ⟨_, rfl, Or.inr (by rw [gr, show 24 + i = 2 * 12 + i by rfl, show 12 + i = 1 * 12 + i by rfl, e1, e2, show bl x i = bl x (0 * 12 + i) by rw [Nat.zero_mul, Nat.zero_add], hx]; rfl)⟩
      | false => exact Or.inr ⟨by omega, _, rfl, rfl, fun k h1 h2 => by rcases (show k = 0 ∨ k = 1 ∨ k = 2 by omega) with rfl | rfl | rfl; exact hx; exact e1; exact e2⟩
    · have e2 := hb 2 (by omega) (by omega)
      have e1 := hb 1 (by omega) (by omega)
      have e0 := hb 0 (by omega) (by omega)
      rw [show 3 - 3 = 0 by rfl, k0']
      exact Or.inl ⟨_, rfl, Or.inl ⟨rfl, by rw [gr, show 24 + i = 2 * 12 + i by rfl, show 12 + i = 1 * 12 + i by rfl, e1, e2, show bl x i = bl x (0 * 12 + i) by rw [Nat.zero_mul, Nat.zero_add], e0]; rfl⟩⟩)
  unfold pf_X4_greatest
  rw [e, jx_b]
  rcases h with ⟨rfl, h⟩ | rfl
  · rw [h]; rfl
  · rfl
end
section
/-! what comes to each part, as the class spreads it -/
def rOK (x : Int64) (f : Nat → Nat) : Prop := ∀ j, j < 64 → bl x j = (decide (j < 36) && decide (j / 12 < f (j % 12)))
def tOK (x : Int64) (k : Nat) : Prop := ∀ j, j < 64 → bl x j = (decide (j < 36) && (decide (k ≠ 0) && decide (k ≤ j / 12 + 1)))
def eE (S : Int32) (kd : Nat → Nat → Nat) (k p q : Nat) : Bool := bt S p && (bt S q && (decide (kd p q ≠ 0) && decide (kd p q ≤ k)))
def sG (S : Int32) (o : Nat → Nat → Nat) (i k p : Nat) : Bool := bt S p && decide (k ≤ o p i)
def sX (S : Int32) (o : Nat → Nat → Nat) (i k p : Nat) : Bool := bt S p && decide (o p i = k)
def cb (S : Int32) (o kd : Nat → Nat → Nat) (p j : Nat) : Bool := decide (j < 36) && cl (eE S kd (j / 12 + 1)) (sG S o (j % 12) (j / 12 + 1)) p
theorem cb_S {S : Int32} {o kd : Nat → Nat → Nat} {p j : Nat} (h : cb S o kd p j = true) : bt S p = true := by
  unfold cb at h
  rw [Bool.and_eq_true] at h
  refine cl_sub (X := fun p => bt S p = true) (fun p hp => ?_) (fun p q _ hE _ => ?_) h.2
  · unfold sG at hp; rw [Bool.and_eq_true] at hp; exact hp.1
  · unfold eE at hE; rw [Bool.and_eq_true] at hE; exact hE.1
theorem any_succ (f : Nat → Bool) (n : Nat) : (List.range (n + 1)).any f = ((List.range n).any f || f n) := by
  rw [List.range_succ, List.any_append]; simp
theorem z_getsMore (th ar : Nat → Int64) {u : Nat} (hu : u < 8) : ∃ r, pf_X3_getsMore th ar (nI u) = some r ∧ (∀ p, p ≠ u → r.2 p = ar p) ∧ (∀ j, j < 64 → bl (r.2 u) j = (bl (ar u) j || (List.range 8).any (fun q => bl (ar q) j && bl (th (u * 8 + q)) j))) ∧ (r.1 = 0 → r.2 u = ar u) := by
  obtain ⟨x, e, h⟩ := jx_loop0 (step := pf_X3_getsMore_s1 th ar (nI u)) (fun i s => s.2 = nI i ∧ ∀ j, j < 64 → bl s.1 j = (bl (ar u) j || (List.range i).any (fun q => bl (ar q) j && bl (th (u * 8 + q)) j))) (fun x => ∀ j, j < 64 → bl x j = (bl (ar u) j || (List.range 8).any (fun q => bl (ar q) j && bl (th (u * 8 + q)) j))) 8 (by omega) (ar u, 0) ⟨rfl, fun j hj => by simp⟩ (by
    rintro i ⟨y, z⟩ hi ⟨rfl, hb⟩
    dsimp only at hb
    unfold pf_X3_getsMore_s1
    dsimp only
    by_cases h8 : 8 ≤ i
    · rw [k8, if_pos (nI_le h8 (by omega))]
      have : i = 8 := by omega
      subst this
      exact Or.inl ⟨_, rfl, hb⟩
    · rw [k8, if_neg (nI_ge (by omega) (by omega)), jx_gk _ (by omega) (by omega), pk_mul, nI_add, jx_gk _ (by omega) (by omega), nI_clamp (by omega), nI_clamp (by omega), nI_1]
      refine Or.inr ⟨by omega, _, rfl, rfl, fun j hj => ?_⟩
      dsimp only
      rw [l_or, l_and, hb j hj, any_succ, Bool.or_assoc])
  have hx : pf_X3_getsMore th ar (nI u) = (if lg_cmp x (ar u) = 0 then some ((0 : Int32), vp_updL ar u x) else some ((1 : Int32), vp_updL ar u x)) := by
    unfold pf_X3_getsMore
    rw [jx_gk _ hu (by omega), nI_clamp (by omega), e, jx_b, jx_gk _ hu (by omega)]
  have hu1 : vp_updL ar u x u = x := pk_uLs
  by_cases hc : lg_cmp x (ar u) = 0
  · rw [if_pos hc] at hx
    exact ⟨_, hx, fun p hp => pk_uLn hp, fun j hj => by dsimp only; rw [hu1]; exact h j hj, fun _ => by dsimp only; rw [hu1]; exact l_ne.mp hc⟩
  · rw [if_neg hc] at hx
    exact ⟨_, hx, fun p hp => pk_uLn hp, fun j hj => by dsimp only; rw [hu1]; exact h j hj, fun h1 => absurd h1 n1n0⟩
section SPR
variable {S : Int32} {o kd : Nat → Nat → Nat} {ow th : Nat → Int64}
def Snd (S : Int32) (o kd : Nat → Nat → Nat) (R : Nat → Int64) : Prop := ∀ p, p < 8 → ∀ j, j < 64 → bl (R p) j = true → cb S o kd p j = true
def Cov (S : Int32) (o kd : Nat → Nat → Nat) (n : Nat) (R : Nat → Int64) : Prop := ∀ p, p < 8 → ∀ j, j < 36 → rch (eE S kd (j / 12 + 1)) (sG S o (j % 12) (j / 12 + 1)) n p = true → bl (R p) j = true
theorem z_spread1 (how : ∀ p, p < 8 → bt S p = true → rOK (ow p) (o p)) (ar : Nat → Int64) : ∃ r, jx_iter (pf_X3_spread_s1 ow S) jx_F ((0 : Int32), ar) = some r ∧ Snd S o kd r ∧ Cov S o kd 0 r := by
  obtain ⟨r, e, h⟩ := jx_loop0 (step := pf_X3_spread_s1 ow S) (fun i s => s.1 = nI i ∧ ∀ p, p < i → s.2 p = if bt S p then ow p else 0) (fun r => ∀ p, p < 8 → r p = if bt S p then ow p else 0) 8 (by omega) ((0 : Int32), ar) ⟨rfl, fun p hp => by omega⟩ (by
    rintro i ⟨z, R⟩ hi ⟨rfl, hb⟩
    dsimp only at hb
    unfold pf_X3_spread_s1
    dsimp only
    by_cases h8 : 8 ≤ i
    · rw [k8, if_pos (nI_le h8 (by omega))]
      have : i = 8 := by omega
      subst this
      exact Or.inl ⟨_, rfl, hb⟩
    · rw [k8, if_neg (nI_ge (by omega) (by omega)), z_isSet32 S (by omega), jx_b, bi0]
      refine Or.inr ⟨by omega, (nI (i + 1), vp_updL R i (if bt S i then ow i else 0)), ?_, rfl, fun p hp => ?_⟩
      · cases hs : bt S i
        · rw [if_neg ff, jx_b, jx_gk _ (by omega) (by omega), nI_clamp (by omega), nI_1, if_neg ff]
        · rw [if_pos rfl, jx_gk _ (by omega) (by omega), jx_b, jx_gk _ (by omega) (by omega), nI_clamp (by omega), nI_1, if_pos rfl]
      · dsimp only
        by_cases hp2 : p = i
        · subst hp2; rw [pk_uLs]
        · rw [pk_uLn hp2]; exact hb p (by omega))
  refine ⟨r, e, fun p hp j hj hbl => ?_, fun p hp j hj hr => ?_⟩
  · rw [h p hp] at hbl
    cases hs : bt S p with
    | false => rw [hs, if_neg (by decide), l_0] at hbl; cases hbl
    | true =>
      rw [hs, if_pos rfl, how p hp hs j hj, Bool.and_eq_true, decide_eq_true_eq, decide_eq_true_eq] at hbl
      unfold cb
      rw [decide_eq_true hbl.1, Bool.true_and]
      refine cl_src ?_
      unfold sG
      rw [hs, Bool.true_and, decide_eq_true_eq]
      omega
  · have hr : sG S o (j % 12) (j / 12 + 1) p = true := hr
    unfold sG at hr
    rw [Bool.and_eq_true, decide_eq_true_eq] at hr
    rw [h p hp, if_pos hr.1, how p hp hr.1 j (by omega), decide_eq_true hj, Bool.true_and, decide_eq_true_eq]
    omega
theorem z_spread3 (hth : ∀ p q, p < 8 → q < 8 → bt S p = true → bt S q = true → tOK (th (p * 8 + q)) (kd p q)) (R0 : Nat → Int64) (h0 : Snd S o kd R0) (n : Nat) (hc : Cov S o kd n R0) : ∃ r, jx_iter (pf_X3_spread_s3 th S) jx_F ((0 : Int32), (0 : Int32), R0) = some r ∧ Snd S o kd r.2 ∧ Cov S o kd (n + 1) r.2 ∧ (r.1 = 0 → ∀ m, Cov S o kd m r.2) := by
  obtain ⟨r, e, h⟩ := jx_loop0 (step := pf_X3_spread_s3 th S) (fun i s => s.2.1 = nI i ∧ Snd S o kd s.2.2 ∧ (∀ p, p < 8 → ∀ j, j < 64 → bl (R0 p) j = true → bl (s.2.2 p) j = true) ∧ (∀ p, p < i → bt S p = true → ∀ q, q < 8 → bt S q = true → ∀ j, j < 36 → kd p q ≠ 0 → kd p q ≤ j / 12 + 1 → bl (R0 q) j = true → bl (s.2.2 p) j = true) ∧ (s.1 = 0 → ∀ p, p < 8 → s.2.2 p = R0 p)) (fun r => Snd S o kd r.2 ∧ (∀ p, p < 8 → ∀ j, j < 64 → bl (R0 p) j = true → bl (r.2 p) j = true) ∧ (∀ p, p < 8 → bt S p = true → ∀ q, q < 8 → bt S q = true → ∀ j, j < 36 → kd p q ≠ 0 → kd p q ≤ j / 12 + 1 → bl (R0 q) j = true → bl (r.2 p) j = true) ∧ (r.1 = 0 → ∀ p, p < 8 → r.2 p = R0 p)) 8 (by omega) ((0 : Int32), (0 : Int32), R0) ⟨rfl, h0, fun p _ j _ h => h, fun p hp => by omega, fun _ p _ => rfl⟩ (by
    rintro i ⟨f, z, R⟩ hi ⟨rfl, hs, hg, hd, hfl⟩
    dsimp only at hs hg hd hfl
    unfold pf_X3_spread_s3
    dsimp only
    by_cases h8 : 8 ≤ i
    · rw [k8, if_pos (nI_le h8 (by omega))]
      have : i = 8 := by omega
      subst this
      exact Or.inl ⟨_, rfl, hs, hg, hd, hfl⟩
    · rw [k8, if_neg (nI_ge (by omega) (by omega)), z_isSet32 S (by omega), jx_b, bi0]
      right
      refine ⟨by omega, ?_⟩
      cases hbs : bt S i with
      | false =>
        refine ⟨(f, nI (i + 1), R), ?_, rfl, hs, hg, fun p hp hpS => ?_, hfl⟩
        · rw [if_neg ff, jx_b, nI_1]
        · by_cases hpi : p = i
          · subst hpi; rw [hbs] at hpS; cases hpS
          · exact hd p (by omega) hpS
      | true =>
        obtain ⟨g, eg, g1, g2, g3⟩ := z_getsMore th R (u := i) (by omega)
        have hmem : ∀ j, j < 64 → (bl (g.2 i) j = true ↔ bl (R i) j = true ∨ ∃ q, q < 8 ∧ bl (R q) j = true ∧ bl (th (i * 8 + q)) j = true) := by
          intro j hj
          rw [g2 j hj]
          simp
        have hin : ∀ p, p < 8 → ∀ j, j < 64 → bl (R p) j = true → bl (g.2 p) j = true := by
          intro p hp j hj hb
          by_cases hpi : p = i
          · subst hpi; exact (hmem j hj).mpr (Or.inl hb)
          · rw [g1 p hpi]; exact hb
        have hs2 : Snd S o kd g.2 := by
          intro p hp j hj hb
          by_cases hpi : p = i
          · subst hpi
            rcases (hmem j hj).mp hb with hb | ⟨q, hq, hb, hbt⟩
            · exact hs p hp j hj hb
            · have hcq := hs q hq j hj hb
              have hSq := cb_S hcq
              have ht := hth p q hp hq hbs hSq j hj
              rw [hbt] at ht
              have ht := ht.symm
              rw [Bool.and_eq_true, Bool.and_eq_true, decide_eq_true_eq, decide_eq_true_eq, decide_eq_true_eq] at ht
              unfold cb at hcq ⊢
              rw [Bool.and_eq_true] at hcq ⊢
              refine ⟨hcq.1, cl_E hp hq ?_ hcq.2⟩
              unfold eE
              rw [hbs, hSq, decide_eq_true ht.2.1, decide_eq_true ht.2.2]; rfl
          · rw [g1 p hpi] at hb; exact hs p hp j hj hb
        have hd2 : ∀ p, p < i + 1 → bt S p = true → ∀ q, q < 8 → bt S q = true → ∀ j, j < 36 → kd p q ≠ 0 → kd p q ≤ j / 12 + 1 → bl (R0 q) j = true → bl (g.2 p) j = true := by
          intro p hp hpS q hq hqS j hj k1' k2' hb
          by_cases hpi : p = i
          · subst hpi
            refine (hmem j (by omega)).mpr (Or.inr ⟨q, hq, hg q hq j (by omega) hb, ?_⟩)
            rw [hth p q (by omega) hq hpS hqS j (by omega), decide_eq_true hj, decide_eq_true k1', decide_eq_true k2']; rfl
          · rw [g1 p hpi]; exact hd p (by omega) hpS q hq hqS j hj k1' k2' hb
        rw [if_pos rfl, eg, jx_b]
        by_cases hz : g.1 = 0
        · refine ⟨(f, nI (i + 1), g.2), ?_, rfl, hs2, fun p hp j hj hb => hin p hp j hj (hg p hp j hj hb), hd2, fun hf p hp => ?_⟩
          · rw [if_pos hz, jx_b, nI_1]
          · by_cases hpi : p = i
            · subst hpi; exact (g3 hz).trans (hfl hf p hp)
            · exact (g1 p hpi).trans (hfl hf p hp)
        · refine ⟨((1 : Int32), nI (i + 1), g.2), ?_, rfl, hs2, fun p hp j hj hb => hin p hp j hj (hg p hp j hj hb), hd2, fun hf => absurd hf n1n0⟩
          rw [if_neg hz, jx_b, nI_1])
  obtain ⟨hs, hg, hd, hfl⟩ := h
  have hcov : ∀ m, Cov S o kd m R0 → Cov S o kd (m + 1) r.2 := by
    intro m hm p hp j hj hr
    rcases rch_S.mp hr with h1 | ⟨q, hq, hE, h1⟩
    · exact hg p hp j (by omega) (hm p hp j hj h1)
    · unfold eE at hE
      rw [Bool.and_eq_true, Bool.and_eq_true, Bool.and_eq_true, decide_eq_true_eq, decide_eq_true_eq] at hE
      exact hd p hp hE.1 q hq hE.2.1 j hj hE.2.2.1 hE.2.2.2 (hm q hq j hj h1)
  refine ⟨r, e, hs, hcov n hc, fun hz => ?_⟩
  have he := hfl hz
  have hb : ∀ m, Cov S o kd m R0 := by
    intro m
    induction m with
    | zero => intro p hp j hj hr; exact hc p hp j hj (rch_up (Nat.zero_le n) hr)
    | succ m ih => intro p hp j hj hr; have := hcov m ih p hp j hj hr; rw [he p hp] at this; exact this
  intro m p hp j hj hr
  rw [he p hp]
  exact hb m p hp j hj hr
theorem z_spread (how : ∀ p, p < 8 → bt S p = true → rOK (ow p) (o p)) (hth : ∀ p q, p < 8 → q < 8 → bt S p = true → bt S q = true → tOK (th (p * 8 + q)) (kd p q)) (ar : Nat → Int64) : ∃ r, pf_X3_spread ow th ar S = some r ∧ ∀ p, p < 8 → ∀ j, j < 64 → bl (r p) j = cb S o kd p j := by
  obtain ⟨R, e1, hs, hc⟩ := z_spread1 (kd := kd) how ar
  obtain ⟨r, e, h1, h2⟩ := jx_loop0 (step := pf_X3_spread_s2 th S) (fun i s => s.2.1 = nI i ∧ Snd S o kd s.2.2 ∧ Cov S o kd i s.2.2 ∧ (s.1 = 0 → ∀ m, Cov S o kd m s.2.2)) (fun r => Snd S o kd r ∧ Cov S o kd 7 r) 8 (by omega) ((1 : Int32), (0 : Int32), R) ⟨rfl, hs, hc, fun h => absurd h n1n0⟩ (by
    rintro i ⟨f, z, Q⟩ hi ⟨rfl, hs, hc, hfl⟩
    dsimp only at hs hc hfl
    unfold pf_X3_spread_s2
    dsimp only
    by_cases hz : f = 0
    · rw [if_pos hz]
      exact Or.inl ⟨_, rfl, hs, hfl hz 7⟩
    · rw [if_neg hz]
      by_cases h8 : 8 ≤ i
      · rw [k8, if_pos (nI_le h8 (by omega))]
        exact Or.inl ⟨_, rfl, hs, fun p hp j hj hr => hc p hp j hj (rch_up (by omega) hr)⟩
      · obtain ⟨r, e, g1, g2, g3⟩ := z_spread3 hth Q hs i hc
        rw [k8, if_neg (nI_ge (by omega) (by omega)), e, jx_b, nI_1]
        exact Or.inr ⟨by omega, _, rfl, rfl, g1, g2, g3⟩)
  refine ⟨r, ?_, fun p hp j hj => ?_⟩
  · unfold pf_X3_spread
    rw [e1, jx_b, e, jx_b]
  · cases hb : bl (r p) j with
    | true => exact (h1 p hp j hj hb).symm
    | false =>
      cases hcb : cb S o kd p j with
      | false => rfl
      | true =>
        unfold cb at hcb
        rw [Bool.and_eq_true, decide_eq_true_eq] at hcb
        rw [h2 p hp j hcb.1 hcb.2] at hb
        cases hb
end SPR
end
section
theorem jx_negn {α : Type} {c : Prop} [Decidable c] {a b : Option α} {r : α} (hc : c) (h : (if ¬ c then a else b) = some r) : b = some r := by
  rwa [if_neg (fun hn => hn hc)] at h
end
section
set_option maxHeartbeats 4000000 in
set_option maxRecDepth 100000 in
theorem c_J13_bitCount_95d88 (l : Launch) (D : va_G) (a : Nat → Nat) (cI cL : ClassId) (p0 : Int64) (res : Int32) (hf : pf_J13_bitCount_95d88 p0 = some res) : jMi l yJ13_bitCount_95d88 wsJ13_bitCount_95d88 ({ frames := 0, cells := 0, slots := 0, locals := 0 }) D [(cI, .int), (cL, .long)] [.long p0] (wE a cI cL) res (wE a cI cL) := by
  intro sz
  refine Met.ofW (cc := cJ13_bitCount_95d88) (maxL := 2) (ret := (some .int)) (by decide) rfl ?_
  intro p e s m args below meth c s₁ B hml hv
  obtain ⟨rfl, hsz, hP, hK, hD0, hN⟩ := hv
  have hx := B.exec
  have hb := B.bytes
  have hr := B.returns
  have hts := atoms_spec (ws := wsJ13_bitCount_95d88) B.pre
  have hown : s.vm.findClass RJ13 = some m.cls := findClass_of_methodNamed B.named
  have hlocks := B.notSynchronized
  subst hsz
  have hD := hD0.self (sz := s.heap.size)
  generalize hAe : va_A (wE a cI cL) s.heap.size = A at hD ⊢
  have hA : ∀ q : Nat, s.heap.size ≤ q → A q := fun q h => by rw [← hAe]; exact Or.inr h
  have hS : va_S A s.heap s.heap [] := va_S.rf
  have hl := lv_entry ([.long p0]) (n := 2) (Nat.le_of_ble_eq_true rfl)
  rw [lg_entry_eq]
  generalize (lg_sl ([.long p0]) ++ List.replicate (2 - (lg_sl ([.long p0])).length) Slot.unset).toArray = ls at hl ⊢
  have hl : lv_has ls 2 [(0, .long p0)] := hl
  have hf : pf_J13_bitCount_95d88 p0 = some res := hf
  refine lv_lload_n hx hb dJ13_bitCount_95d88_0 rfl (lv_at hl 0 rfl) ?_
  refine lv_lload_n hx hb dJ13_bitCount_95d88_1 rfl (lv_at hl 0 rfl) ?_
  refine lv_iconst (v := 1) hx hb dJ13_bitCount_95d88_2 (by decide) ?_
  refine lv_lushr (v := (((p0).toUInt64 >>> (((1 : Int32)).toInt64.toUInt64 &&& Int64.toUInt64 63)).toInt64)) hx hb dJ13_bitCount_95d88_3 rfl ?_
  refine lv_ldc2 (v := 6148914691236517205) hx hb hown (hts (.constantLong RJ13 314 (6148914691236517205)) (by decide +kernel)) dJ13_bitCount_95d88_4 ?_
  refine lv_land hx hb dJ13_bitCount_95d88_7 ?_
  refine lv_lsub hx hb dJ13_bitCount_95d88_8 ?_
  obtain ⟨v1, hn, hf⟩ := jx_bs hf
  refine W.eq (g2 := F0 m 9 ls [.long v1]) (congrArg (fun z => F0 m 9 ls (Value.long z :: [])) (jx_eq hn)) ?_
  clear hn
  refine lv_lstore_n (lv' := [(0, .long v1)]) hx hb dJ13_bitCount_95d88_9 rfl hl (by decide) rfl (fun ls hl => ?_)
  refine lv_lload_n hx hb dJ13_bitCount_95d88_10 rfl (lv_at hl 0 rfl) ?_
  refine lv_ldc2 (v := 3689348814741910323) hx hb hown (hts (.constantLong RJ13 316 (3689348814741910323)) (by decide +kernel)) dJ13_bitCount_95d88_11 ?_
  refine lv_land hx hb dJ13_bitCount_95d88_14 ?_
  refine lv_lload_n hx hb dJ13_bitCount_95d88_15 rfl (lv_at hl 0 rfl) ?_
  refine lv_iconst (v := 2) hx hb dJ13_bitCount_95d88_16 (by decide) ?_
  refine lv_lushr (v := (((v1).toUInt64 >>> (((2 : Int32)).toInt64.toUInt64 &&& Int64.toUInt64 63)).toInt64)) hx hb dJ13_bitCount_95d88_17 rfl ?_
  refine lv_ldc2 (v := 3689348814741910323) hx hb hown (hts (.constantLong RJ13 316 (3689348814741910323)) (by decide +kernel)) dJ13_bitCount_95d88_18 ?_
  refine lv_land hx hb dJ13_bitCount_95d88_21 ?_
  refine lv_ladd hx hb dJ13_bitCount_95d88_22 ?_
  obtain ⟨v2, hn, hf⟩ := jx_bs hf
  refine W.eq (g2 := F0 m 23 ls [.long v2]) (congrArg (fun z => F0 m 23 ls (Value.long z :: [])) (jx_eq hn)) ?_
  clear hn
  refine lv_lstore_n (lv' := [(0, .long v2)]) hx hb dJ13_bitCount_95d88_23 rfl hl (by decide) rfl (fun ls hl => ?_)
  refine lv_lload_n hx hb dJ13_bitCount_95d88_24 rfl (lv_at hl 0 rfl) ?_
  refine lv_lload_n hx hb dJ13_bitCount_95d88_25 rfl (lv_at hl 0 rfl) ?_
  refine lv_iconst (v := 4) hx hb dJ13_bitCount_95d88_26 (by decide) ?_
  refine lv_lushr (v := (((v2).toUInt64 >>> (((4 : Int32)).toInt64.toUInt64 &&& Int64.toUInt64 63)).toInt64)) hx hb dJ13_bitCount_95d88_27 rfl ?_
  refine lv_ladd hx hb dJ13_bitCount_95d88_28 ?_
  refine lv_ldc2 (v := 1085102592571150095) hx hb hown (hts (.constantLong RJ13 318 (1085102592571150095)) (by decide +kernel)) dJ13_bitCount_95d88_29 ?_
  refine lv_land hx hb dJ13_bitCount_95d88_32 ?_
  obtain ⟨v3, hn, hf⟩ := jx_bs hf
  refine W.eq (g2 := F0 m 33 ls [.long v3]) (congrArg (fun z => F0 m 33 ls (Value.long z :: [])) (jx_eq hn)) ?_
  clear hn
  refine lv_lstore_n (lv' := [(0, .long v3)]) hx hb dJ13_bitCount_95d88_33 rfl hl (by decide) rfl (fun ls hl => ?_)
  refine lv_lload_n hx hb dJ13_bitCount_95d88_34 rfl (lv_at hl 0 rfl) ?_
  refine lv_lload_n hx hb dJ13_bitCount_95d88_35 rfl (lv_at hl 0 rfl) ?_
  refine lv_bipush (v := 8) hx hb dJ13_bitCount_95d88_36 (by decide) ?_
  refine lv_lushr (v := (((v3).toUInt64 >>> (((8 : Int32)).toInt64.toUInt64 &&& Int64.toUInt64 63)).toInt64)) hx hb dJ13_bitCount_95d88_38 rfl ?_
  refine lv_ladd hx hb dJ13_bitCount_95d88_39 ?_
  refine lv_lstore_n (lv' := [(0, .long (v3 + (((v3).toUInt64 >>> (((8 : Int32)).toInt64.toUInt64 &&& Int64.toUInt64 63)).toInt64)))]) hx hb dJ13_bitCount_95d88_40 rfl hl (by decide) rfl (fun ls hl => ?_)
  refine lv_lload_n hx hb dJ13_bitCount_95d88_41 rfl (lv_at hl 0 rfl) ?_
  refine lv_lload_n hx hb dJ13_bitCount_95d88_42 rfl (lv_at hl 0 rfl) ?_
  refine lv_bipush (v := 16) hx hb dJ13_bitCount_95d88_43 (by decide) ?_
  refine lv_lushr (v := ((((v3 + (((v3).toUInt64 >>> (((8 : Int32)).toInt64.toUInt64 &&& Int64.toUInt64 63)).toInt64))).toUInt64 >>> (((16 : Int32)).toInt64.toUInt64 &&& Int64.toUInt64 63)).toInt64)) hx hb dJ13_bitCount_95d88_45 rfl ?_
  refine lv_ladd hx hb dJ13_bitCount_95d88_46 ?_
  obtain ⟨v4, hn, hf⟩ := jx_bs hf
  refine W.eq (g2 := F0 m 47 ls [.long v4]) (congrArg (fun z => F0 m 47 ls (Value.long z :: [])) (jx_eq hn)) ?_
  clear hn
  refine lv_lstore_n (lv' := [(0, .long v4)]) hx hb dJ13_bitCount_95d88_47 rfl hl (by decide) rfl (fun ls hl => ?_)
  refine lv_lload_n hx hb dJ13_bitCount_95d88_48 rfl (lv_at hl 0 rfl) ?_
  refine lv_lload_n hx hb dJ13_bitCount_95d88_49 rfl (lv_at hl 0 rfl) ?_
  refine lv_bipush (v := 32) hx hb dJ13_bitCount_95d88_50 (by decide) ?_
  refine lv_lushr (v := (((v4).toUInt64 >>> (((32 : Int32)).toInt64.toUInt64 &&& Int64.toUInt64 63)).toInt64)) hx hb dJ13_bitCount_95d88_52 rfl ?_
  refine lv_ladd hx hb dJ13_bitCount_95d88_53 ?_
  refine lv_lstore_n (lv' := [(0, .long (v4 + (((v4).toUInt64 >>> (((32 : Int32)).toInt64.toUInt64 &&& Int64.toUInt64 63)).toInt64)))]) hx hb dJ13_bitCount_95d88_54 rfl hl (by decide) rfl (fun ls hl => ?_)
  refine lv_lload_n hx hb dJ13_bitCount_95d88_55 rfl (lv_at hl 0 rfl) ?_
  refine lv_l2i (v := ((v4 + (((v4).toUInt64 >>> (((32 : Int32)).toInt64.toUInt64 &&& Int64.toUInt64 63)).toInt64))).toInt32) hx hb dJ13_bitCount_95d88_56 rfl ?_
  refine lv_bipush (v := 127) hx hb dJ13_bitCount_95d88_57 (by decide) ?_
  refine lv_iand hx hb dJ13_bitCount_95d88_59 ?_
  have he := jx_eq hf
  subst he
  exact jx_reti hx hb hr hlocks rfl hK hP hD hS dJ13_bitCount_95d88_60
set_option maxHeartbeats 4000000 in
set_option maxRecDepth 100000 in
theorem c_J6_bitCount_0f7a4 (l : Launch) (D : va_G) (a : Nat → Nat) (cI cL : ClassId) (p0 : Int32) (res : Int32) (hf : pf_J6_bitCount_0f7a4 p0 = some res) : jMi l yJ6_bitCount_0f7a4 wsJ6_bitCount_0f7a4 ({ frames := 0, cells := 0, slots := 0, locals := 0 }) D [(cI, .int), (cL, .long)] [.int p0] (wE a cI cL) res (wE a cI cL) := by
  intro sz
  refine Met.ofW (cc := cJ6_bitCount_0f7a4) (maxL := 1) (ret := (some .int)) (by decide) rfl ?_
  intro p e s m args below meth c s₁ B hml hv
  obtain ⟨rfl, hsz, hP, hK, hD0, hN⟩ := hv
  have hx := B.exec
  have hb := B.bytes
  have hr := B.returns
  have hts := atoms_spec (ws := wsJ6_bitCount_0f7a4) B.pre
  have hown : s.vm.findClass RJ6 = some m.cls := findClass_of_methodNamed B.named
  have hlocks := B.notSynchronized
  subst hsz
  have hD := hD0.self (sz := s.heap.size)
  generalize hAe : va_A (wE a cI cL) s.heap.size = A at hD ⊢
  have hA : ∀ q : Nat, s.heap.size ≤ q → A q := fun q h => by rw [← hAe]; exact Or.inr h
  have hS : va_S A s.heap s.heap [] := va_S.rf
  have hl := lv_entry ([.int p0]) (n := 1) (Nat.le_of_ble_eq_true rfl)
  rw [lg_entry_eq]
  generalize (lg_sl ([.int p0]) ++ List.replicate (1 - (lg_sl ([.int p0])).length) Slot.unset).toArray = ls at hl ⊢
  have hl : lv_has ls 1 [(0, .int p0)] := hl
  have hf : pf_J6_bitCount_0f7a4 p0 = some res := hf
  refine lv_iload_n hx hb dJ6_bitCount_0f7a4_0 rfl (lv_at hl 0 rfl) ?_
  refine lv_iload_n hx hb dJ6_bitCount_0f7a4_1 rfl (lv_at hl 0 rfl) ?_
  refine lv_iconst (v := 1) hx hb dJ6_bitCount_0f7a4_2 (by decide) ?_
  refine lv_iushr (v := (((p0).toUInt32 >>> (((1 : Int32)).toUInt32 &&& Int32.toUInt32 31)).toInt32)) hx hb dJ6_bitCount_0f7a4_3 rfl ?_
  refine lv_ldcw (v := 1431655765) hx hb hown (hts (.constant RJ6 265 (1431655765)) (by decide +kernel)) dJ6_bitCount_0f7a4_4 ?_
  refine lv_iand hx hb dJ6_bitCount_0f7a4_7 ?_
  refine lv_isub hx hb dJ6_bitCount_0f7a4_8 ?_
  obtain ⟨v1, hn, hf⟩ := jx_bs hf
  refine W.eq (g2 := F0 m 9 ls [.int v1]) (congrArg (fun z => F0 m 9 ls (Value.int z :: [])) (jx_eq hn)) ?_
  clear hn
  refine lv_istore_n (lv' := [(0, .int v1)]) hx hb dJ6_bitCount_0f7a4_9 rfl hl (by decide) rfl (fun ls hl => ?_)
  refine lv_iload_n hx hb dJ6_bitCount_0f7a4_10 rfl (lv_at hl 0 rfl) ?_
  refine lv_ldcw (v := 858993459) hx hb hown (hts (.constant RJ6 266 (858993459)) (by decide +kernel)) dJ6_bitCount_0f7a4_11 ?_
  refine lv_iand hx hb dJ6_bitCount_0f7a4_14 ?_
  refine lv_iload_n hx hb dJ6_bitCount_0f7a4_15 rfl (lv_at hl 0 rfl) ?_
  refine lv_iconst (v := 2) hx hb dJ6_bitCount_0f7a4_16 (by decide) ?_
  refine lv_iushr (v := (((v1).toUInt32 >>> (((2 : Int32)).toUInt32 &&& Int32.toUInt32 31)).toInt32)) hx hb dJ6_bitCount_0f7a4_17 rfl ?_
  refine lv_ldcw (v := 858993459) hx hb hown (hts (.constant RJ6 266 (858993459)) (by decide +kernel)) dJ6_bitCount_0f7a4_18 ?_
  refine lv_iand hx hb dJ6_bitCount_0f7a4_21 ?_
  refine lv_iadd hx hb dJ6_bitCount_0f7a4_22 ?_
  obtain ⟨v2, hn, hf⟩ := jx_bs hf
  refine W.eq (g2 := F0 m 23 ls [.int v2]) (congrArg (fun z => F0 m 23 ls (Value.int z :: [])) (jx_eq hn)) ?_
  clear hn
  refine lv_istore_n (lv' := [(0, .int v2)]) hx hb dJ6_bitCount_0f7a4_23 rfl hl (by decide) rfl (fun ls hl => ?_)
  refine lv_iload_n hx hb dJ6_bitCount_0f7a4_24 rfl (lv_at hl 0 rfl) ?_
  refine lv_iload_n hx hb dJ6_bitCount_0f7a4_25 rfl (lv_at hl 0 rfl) ?_
  refine lv_iconst (v := 4) hx hb dJ6_bitCount_0f7a4_26 (by decide) ?_
  refine lv_iushr (v := (((v2).toUInt32 >>> (((4 : Int32)).toUInt32 &&& Int32.toUInt32 31)).toInt32)) hx hb dJ6_bitCount_0f7a4_27 rfl ?_
  refine lv_iadd hx hb dJ6_bitCount_0f7a4_28 ?_
  refine lv_ldcw (v := 252645135) hx hb hown (hts (.constant RJ6 267 (252645135)) (by decide +kernel)) dJ6_bitCount_0f7a4_29 ?_
  refine lv_iand hx hb dJ6_bitCount_0f7a4_32 ?_
  obtain ⟨v3, hn, hf⟩ := jx_bs hf
  refine W.eq (g2 := F0 m 33 ls [.int v3]) (congrArg (fun z => F0 m 33 ls (Value.int z :: [])) (jx_eq hn)) ?_
  clear hn
  refine lv_istore_n (lv' := [(0, .int v3)]) hx hb dJ6_bitCount_0f7a4_33 rfl hl (by decide) rfl (fun ls hl => ?_)
  refine lv_iload_n hx hb dJ6_bitCount_0f7a4_34 rfl (lv_at hl 0 rfl) ?_
  refine lv_iload_n hx hb dJ6_bitCount_0f7a4_35 rfl (lv_at hl 0 rfl) ?_
  refine lv_bipush (v := 8) hx hb dJ6_bitCount_0f7a4_36 (by decide) ?_
  refine lv_iushr (v := (((v3).toUInt32 >>> (((8 : Int32)).toUInt32 &&& Int32.toUInt32 31)).toInt32)) hx hb dJ6_bitCount_0f7a4_38 rfl ?_
  refine lv_iadd hx hb dJ6_bitCount_0f7a4_39 ?_
  refine lv_istore_n (lv' := [(0, .int (v3 + (((v3).toUInt32 >>> (((8 : Int32)).toUInt32 &&& Int32.toUInt32 31)).toInt32)))]) hx hb dJ6_bitCount_0f7a4_40 rfl hl (by decide) rfl (fun ls hl => ?_)
  refine lv_iload_n hx hb dJ6_bitCount_0f7a4_41 rfl (lv_at hl 0 rfl) ?_
  refine lv_iload_n hx hb dJ6_bitCount_0f7a4_42 rfl (lv_at hl 0 rfl) ?_
  refine lv_bipush (v := 16) hx hb dJ6_bitCount_0f7a4_43 (by decide) ?_
  refine lv_iushr (v := ((((v3 + (((v3).toUInt32 >>> (((8 : Int32)).toUInt32 &&& Int32.toUInt32 31)).toInt32))).toUInt32 >>> (((16 : Int32)).toUInt32 &&& Int32.toUInt32 31)).toInt32)) hx hb dJ6_bitCount_0f7a4_45 rfl ?_
  refine lv_iadd hx hb dJ6_bitCount_0f7a4_46 ?_
  obtain ⟨v4, hn, hf⟩ := jx_bs hf
  refine W.eq (g2 := F0 m 47 ls [.int v4]) (congrArg (fun z => F0 m 47 ls (Value.int z :: [])) (jx_eq hn)) ?_
  clear hn
  refine lv_istore_n (lv' := [(0, .int v4)]) hx hb dJ6_bitCount_0f7a4_47 rfl hl (by decide) rfl (fun ls hl => ?_)
  refine lv_iload_n hx hb dJ6_bitCount_0f7a4_48 rfl (lv_at hl 0 rfl) ?_
  refine lv_bipush (v := 63) hx hb dJ6_bitCount_0f7a4_49 (by decide) ?_
  refine lv_iand hx hb dJ6_bitCount_0f7a4_51 ?_
  have he := jx_eq hf
  subst he
  exact jx_reti hx hb hr hlocks rfl hK hP hD hS dJ6_bitCount_0f7a4_52
set_option maxHeartbeats 4000000 in
set_option maxRecDepth 100000 in
theorem c_X4_itemsIn (l : Launch) (D : va_G) (a : Nat → Nat) (cI cL : ClassId) (p0 : Int64) (res : Int32) (hf : pf_X4_itemsIn p0 = some res) : jMi l yX4_itemsIn wsX4_itemsIn ({ frames := 0, cells := 0, slots := 0, locals := 0 }) D [(cI, .int), (cL, .long)] [.long p0] (wE a cI cL) res (wE a cI cL) := by
  intro sz
  refine Met.ofW (cc := cX4_itemsIn) (maxL := 2) (ret := (some .int)) (by decide) rfl ?_
  intro p e s m args below meth c s₁ B hml hv
  obtain ⟨rfl, hsz, hP, hK, hD0, hN⟩ := hv
  have hx := B.exec
  have hb := B.bytes
  have hr := B.returns
  have hts := atoms_spec (ws := wsX4_itemsIn) B.pre
  have hown : s.vm.findClass RX4 = some m.cls := findClass_of_methodNamed B.named
  have hlocks := B.notSynchronized
  subst hsz
  have hD := hD0.self (sz := s.heap.size)
  generalize hAe : va_A (wE a cI cL) s.heap.size = A at hD ⊢
  have hA : ∀ q : Nat, s.heap.size ≤ q → A q := fun q h => by rw [← hAe]; exact Or.inr h
  have hS : va_S A s.heap s.heap [] := va_S.rf
  have hl := lv_entry ([.long p0]) (n := 2) (Nat.le_of_ble_eq_true rfl)
  rw [lg_entry_eq]
  generalize (lg_sl ([.long p0]) ++ List.replicate (2 - (lg_sl ([.long p0])).length) Slot.unset).toArray = ls at hl ⊢
  have hl : lv_has ls 2 [(0, .long p0)] := hl
  have hf : pf_X4_itemsIn p0 = some res := hf
  refine lv_lload_n hx hb dX4_itemsIn_0 rfl (lv_at hl 0 rfl) ?_
  refine lv_lload_n hx hb dX4_itemsIn_1 rfl (lv_at hl 0 rfl) ?_
  refine lv_bipush (v := 12) hx hb dX4_itemsIn_2 (by decide) ?_
  refine lv_lshr (v := (p0 >>> (((12 : Int32)).toInt64 &&& 63))) hx hb dX4_itemsIn_4 rfl ?_
  refine lv_lor hx hb dX4_itemsIn_5 ?_
  refine lv_lload_n hx hb dX4_itemsIn_6 rfl (lv_at hl 0 rfl) ?_
  refine lv_bipush (v := 24) hx hb dX4_itemsIn_7 (by decide) ?_
  refine lv_lshr (v := (p0 >>> (((24 : Int32)).toInt64 &&& 63))) hx hb dX4_itemsIn_9 rfl ?_
  refine lv_lor hx hb dX4_itemsIn_10 ?_
  refine lv_l2i (v := (((p0 ||| (p0 >>> (((12 : Int32)).toInt64 &&& 63))) ||| (p0 >>> (((24 : Int32)).toInt64 &&& 63)))).toInt32) hx hb dX4_itemsIn_11 rfl ?_
  refine lv_sipush (v := 4095) hx hb dX4_itemsIn_12 (by decide) ?_
  refine lv_iand hx hb dX4_itemsIn_15 ?_
  have he := jx_eq hf
  subst he
  exact jx_reti hx hb hr hlocks rfl hK hP hD hS dX4_itemsIn_16
set_option maxHeartbeats 4000000 in
set_option maxRecDepth 100000 in
theorem c_X4_meeting (l : Launch) (D : va_G) (a : Nat → Nat) (cI cL : ClassId) (p0 : Int64) (res : Int32) (hf : pf_X4_meeting p0 = some res) : jMi l yX4_meeting wsX4_meeting ({ frames := 1, cells := 0, slots := 0, locals := 21 }) D [(cI, .int), (cL, .long)] [.long p0] (wE a cI cL) res (wE a cI cL) := by
  intro sz
  refine Met.ofW (cc := cX4_meeting) (maxL := 3) (ret := (some .int)) (by decide) rfl ?_
  intro p e s m args below meth c s₁ B hml hv
  obtain ⟨rfl, hsz, hP, hK, hD0, hN⟩ := hv
  have hx := B.exec
  have hb := B.bytes
  have hr := B.returns
  have hts := atoms_spec (ws := wsX4_meeting) B.pre
  have hown : s.vm.findClass RX4 = some m.cls := findClass_of_methodNamed B.named
  have hlocks := B.notSynchronized
  subst hsz
  have hD := hD0.self (sz := s.heap.size)
  generalize hAe : va_A (wE a cI cL) s.heap.size = A at hD ⊢
  have hA : ∀ q : Nat, s.heap.size ≤ q → A q := fun q h => by rw [← hAe]; exact Or.inr h
  have hS : va_S A s.heap s.heap [] := va_S.rf
  have hl := lv_entry ([.long p0]) (n := 3) (Nat.le_of_ble_eq_true rfl)
  rw [lg_entry_eq]
  generalize (lg_sl ([.long p0]) ++ List.replicate (3 - (lg_sl ([.long p0])).length) Slot.unset).toArray = ls at hl ⊢
  have hl : lv_has ls 3 [(0, .long p0)] := hl
  have hf : pf_X4_meeting p0 = some res := hf
  refine lv_lload_n hx hb dX4_meeting_0 rfl (lv_at hl 0 rfl) ?_
  obtain ⟨r1, hc, hf⟩ := jx_bs hf
  refine jx_ki (wr := []) (ws2 := (wE a cI cL)) (jx_runS (As := [.long p0]) (rest := []) ⟨hx, hb, hml, hown, hts⟩ (c_X4_itemsIn l D a cI cL p0 r1 hc _) (va_cwS 1 hts gX4_meeting_X4_itemsIn rfl rfl rfl (by decide +kernel) ⟨Nat.le_of_ble_eq_true rfl, Nat.le_of_ble_eq_true rfl⟩) hK hN hP hD [] rfl (by decide) rfl hl.1 rfl (Nat.le_of_ble_eq_true rfl) dX4_meeting_1 ⟨Nat.le_of_ble_eq_true rfl, Nat.le_of_ble_eq_true rfl⟩) hP hD hS hA [] [] [] rfl rfl (by decide) (by decide) rfl (by decide) (fun H locs hP hD hS => ?_)
  clear hc
  refine lv_istore_n (lv' := [(2, .int r1), (0, .long p0)]) hx hb dX4_meeting_4 rfl hl (by decide) rfl (fun ls hl => ?_)
  refine lv_iload_n hx hb dX4_meeting_5 rfl (lv_at hl 0 rfl) ?_
  refine lv_iload_n hx hb dX4_meeting_6 rfl (lv_at hl 0 rfl) ?_
  refine lv_bipush (v := 6) hx hb dX4_meeting_7 (by decide) ?_
  refine lv_ishr hx hb dX4_meeting_9 ?_
  refine lv_iand hx hb dX4_meeting_10 ?_
  have he := jx_eq hf
  subst he
  exact jx_reti hx hb hr hlocks rfl hK hP hD hS dX4_meeting_11
set_option maxHeartbeats 4000000 in
set_option maxRecDepth 100000 in
theorem c_X6_isSet (l : Launch) (D : va_G) (a : Nat → Nat) (cI cL : ClassId) (p0 : Int64) (p1 : Int32) (res : Int32) (hf : pf_X6_isSet p0 p1 = some res) : jMi l yX6_isSet wsX6_isSet ({ frames := 0, cells := 0, slots := 0, locals := 0 }) D [(cI, .int), (cL, .long)] [.long p0, .int p1] (wE a cI cL) res (wE a cI cL) := by
  intro sz
  refine Met.ofW (cc := cX6_isSet) (maxL := 3) (ret := (some .boolean)) (by decide) rfl ?_
  intro p e s m args below meth c s₁ B hml hv
  obtain ⟨rfl, hsz, hP, hK, hD0, hN⟩ := hv
  have hx := B.exec
  have hb := B.bytes
  have hr := B.returns
  have hts := atoms_spec (ws := wsX6_isSet) B.pre
  have hown : s.vm.findClass RX6 = some m.cls := findClass_of_methodNamed B.named
  have hlocks := B.notSynchronized
  subst hsz
  have hD := hD0.self (sz := s.heap.size)
  generalize hAe : va_A (wE a cI cL) s.heap.size = A at hD ⊢
  have hA : ∀ q : Nat, s.heap.size ≤ q → A q := fun q h => by rw [← hAe]; exact Or.inr h
  have hS : va_S A s.heap s.heap [] := va_S.rf
  have hl := lv_entry ([.long p0, .int p1]) (n := 3) (Nat.le_of_ble_eq_true rfl)
  rw [lg_entry_eq]
  generalize (lg_sl ([.long p0, .int p1]) ++ List.replicate (3 - (lg_sl ([.long p0, .int p1])).length) Slot.unset).toArray = ls at hl ⊢
  have hl : lv_has ls 3 [(0, .long p0), (2, .int p1)] := hl
  have hf : pf_X6_isSet p0 p1 = some res := hf
  refine lv_lload_n hx hb dX6_isSet_0 rfl (lv_at hl 0 rfl) ?_
  refine lv_iload_n hx hb dX6_isSet_1 rfl (lv_at hl 1 rfl) ?_
  refine lv_lshr (v := (p0 >>> ((p1).toInt64 &&& 63))) hx hb dX6_isSet_2 rfl ?_
  refine lv_lconst (v := 1) hx hb dX6_isSet_3 (by decide) ?_
  refine lv_land hx hb dX6_isSet_4 ?_
  refine lv_lconst (v := 0) hx hb dX6_isSet_5 (by decide) ?_
  refine W.lcmp hx hb dX6_isSet_6 ?_
  refine W.eq (g2 := F0 m 7 ls [.int (lg_cmp ((p0 >>> ((p1).toInt64 &&& 63)) &&& (1 : Int64)) (0 : Int64))]) rfl ?_
  refine lv_if_eq (tgt := 14) hx hb dX6_isSet_7 (by decide) (fun hq => ?_) (fun hq => ?_)
  · replace hf := jx_pos hq hf
    refine lv_iconst (v := 0) hx hb dX6_isSet_14 (by decide) ?_
    have he := jx_eq hf
    subst he
    exact jx_retz hx hb hr hlocks narrow_b0 rfl hK hP hD hS dX6_isSet_15
  · replace hf := jx_neg hq hf
    refine lv_iconst (v := 1) hx hb dX6_isSet_10 (by decide) ?_
    refine lv_goto (tgt := 15) hx hb dX6_isSet_11 (by decide) ?_
    have he := jx_eq hf
    subst he
    exact jx_retz hx hb hr hlocks narrow_b1 rfl hK hP hD hS dX6_isSet_15
set_option maxHeartbeats 4000000 in
set_option maxRecDepth 100000 in
theorem c_X4_rowsFor (l : Launch) (D : va_G) (a : Nat → Nat) (cI cL : ClassId) (p0 : Int32) (p1 : Int32) (res : Int64) (hf : pf_X4_rowsFor p0 p1 = some res) : jMl l yX4_rowsFor wsX4_rowsFor ({ frames := 0, cells := 0, slots := 0, locals := 0 }) D [(cI, .int), (cL, .long)] [.int p0, .int p1] (wE a cI cL) res (wE a cI cL) := by
  intro sz
  refine Met.ofW (cc := cX4_rowsFor) (maxL := 5) (ret := (some .long)) (by decide) rfl ?_
  intro p e s m args below meth c s₁ B hml hv
  obtain ⟨rfl, hsz, hP, hK, hD0, hN⟩ := hv
  have hx := B.exec
  have hb := B.bytes
  have hr := B.returns
  have hts := atoms_spec (ws := wsX4_rowsFor) B.pre
  have hown : s.vm.findClass RX4 = some m.cls := findClass_of_methodNamed B.named
  have hlocks := B.notSynchronized
  subst hsz
  have hD := hD0.self (sz := s.heap.size)
  generalize hAe : va_A (wE a cI cL) s.heap.size = A at hD ⊢
  have hA : ∀ q : Nat, s.heap.size ≤ q → A q := fun q h => by rw [← hAe]; exact Or.inr h
  have hS : va_S A s.heap s.heap [] := va_S.rf
  have hl := lv_entry ([.int p0, .int p1]) (n := 5) (Nat.le_of_ble_eq_true rfl)
  rw [lg_entry_eq]
  generalize (lg_sl ([.int p0, .int p1]) ++ List.replicate (5 - (lg_sl ([.int p0, .int p1])).length) Slot.unset).toArray = ls at hl ⊢
  have hl : lv_has ls 5 [(0, .int p0), (1, .int p1)] := hl
  have hf : pf_X4_rowsFor p0 p1 = some res := hf
  refine lv_lconst (v := 0) hx hb dX4_rowsFor_0 (by decide) ?_
  refine lv_lstore_n (lv' := [(2, .long (0 : Int64)), (0, .int p0), (1, .int p1)]) hx hb dX4_rowsFor_1 rfl hl (by decide) rfl (fun ls hl => ?_)
  refine lv_iconst (v := 0) hx hb dX4_rowsFor_2 (by decide) ?_
  refine lv_istore (lv' := [(4, .int (0 : Int32)), (2, .long (0 : Int64)), (0, .int p0), (1, .int p1)]) hx hb dX4_rowsFor_3 hl (by decide) rfl (fun ls hl => ?_)
  obtain ⟨k2, hf, hkk2⟩ := jx_bs hf
  have hXk2 : ∀ (H : Heap) (locs : List Loc) (ls : Array Slot), va_P D vwCl (wE a cI cL) H → va_D A (wE a cI cL) → va_S A s.heap H locs → lv_has ls 5 [(2, .long k2)] → jx_Wl p l e wsX4_rowsFor ({ frames := 0, cells := 0, slots := 0, locals := 0 }) s m [.int p0, .int p1] below meth c D [(cI, .int), (cL, .long)] res (wE a cI cL) A H locs (F0 m 29 ls []) := by
    clear hf hP hD hS hl
    intro H locs ls hP hD hS hl
    have hf := hkk2
    refine lv_lload_n hx hb dX4_rowsFor_29 rfl (lv_at hl 0 rfl) ?_
    have he := jx_eq hf
    subst he
    exact jx_retl hx hb hr hlocks rfl hK hP hD hS dX4_rowsFor_30
  have hLk2 : ∀ (n : Nat) (s1 : (Int64 × Int32)) (H : Heap) (locs : List Loc) (ls : Array Slot), jx_iter (pf_X4_rowsFor_s1 p0 p1) n s1 = some k2 → va_P D vwCl (wE a cI cL) H → va_D A (wE a cI cL) → va_S A s.heap H locs → lv_has ls 5 [(0, .int p0), (1, .int p1), (2, .long s1.1), (4, .int s1.2)] → jx_Wl p l e wsX4_rowsFor ({ frames := 0, cells := 0, slots := 0, locals := 0 }) s m [.int p0, .int p1] below meth c D [(cI, .int), (cL, .long)] res (wE a cI cL) A H locs (F0 m 5 ls []) := by
    clear hf hP hD hS hl
    intro n
    induction n with
    | zero => intro s1 _ _ _ hf; cases hf
    | succ n ihk2 =>
      intro s1 _ _ _ hf hP hD hS hl
      obtain ⟨q3, hf, hgk2⟩ := jx_bs hf
      refine lv_iload hx hb dX4_rowsFor_5 (lv_at hl 3 rfl) ?_
      refine lv_iload_n hx hb dX4_rowsFor_7 rfl (lv_at hl 1 rfl) ?_
      refine lv_icmp_ge (tgt := 29) hx hb dX4_rowsFor_8 (by decide) (fun hq => ?_) (fun hq => ?_)
      · replace hf := jx_pos hq hf
        have he := jx_eq hf
        subst he
        have he : _ = k2 := jx_eq hgk2
        subst he
        exact hXk2 _ _ _ hP hD hS (lv_sub hl [2] rfl)
      · replace hf := jx_neg hq hf
        refine lv_lload_n hx hb dX4_rowsFor_11 rfl (lv_at hl 2 rfl) ?_
        refine lv_lconst (v := 1) hx hb dX4_rowsFor_12 (by decide) ?_
        refine lv_iload hx hb dX4_rowsFor_13 (lv_at hl 3 rfl) ?_
        refine lv_bipush (v := 12) hx hb dX4_rowsFor_15 (by decide) ?_
        refine lv_imul hx hb dX4_rowsFor_17 ?_
        refine lv_iload_n hx hb dX4_rowsFor_18 rfl (lv_at hl 0 rfl) ?_
        refine lv_iadd hx hb dX4_rowsFor_19 ?_
        refine lv_lshl (v := ((1 : Int64) <<< ((((s1.2 * (12 : Int32)) + p0)).toInt64 &&& 63))) hx hb dX4_rowsFor_20 rfl ?_
        refine lv_lor hx hb dX4_rowsFor_21 ?_
        refine lv_lstore_n (lv' := [(2, .long (s1.1 ||| ((1 : Int64) <<< ((((s1.2 * (12 : Int32)) + p0)).toInt64 &&& 63)))), (0, .int p0), (1, .int p1), (4, .int s1.2)]) hx hb dX4_rowsFor_22 rfl hl (by decide) rfl (fun ls hl => ?_)
        refine lv_iinc (v := (s1.2 + (1 : Int32))) (lv' := [(4, .int (s1.2 + (1 : Int32))), (2, .long (s1.1 ||| ((1 : Int64) <<< ((((s1.2 * (12 : Int32)) + p0)).toInt64 &&& 63)))), (0, .int p0), (1, .int p1)]) hx hb dX4_rowsFor_23 hl (k := 3) rfl rfl (by decide) rfl (fun ls hl => ?_)
        refine lv_goto (tgt := 5) hx hb dX4_rowsFor_26 (by decide) ?_
        have he := jx_eq hf
        subst he
        exact ihk2 ((s1.1 ||| ((1 : Int64) <<< ((((s1.2 * (12 : Int32)) + p0)).toInt64 &&& 63))), (s1.2 + (1 : Int32))) _ _ _ hgk2 hP hD hS (lv_sub hl [2, 3, 1, 0] rfl)
  exact hLk2 jx_F ((0 : Int64), (0 : Int32)) _ _ _ hf hP hD hS (lv_sub hl [2, 3, 1, 0] rfl)
set_option maxHeartbeats 4000000 in
set_option maxRecDepth 100000 in
theorem c_X4_greatest (l : Launch) (D : va_G) (a : Nat → Nat) (cI cL : ClassId) (p0 : Int64) (p1 : Int32) (res : Int32) (hf : pf_X4_greatest p0 p1 = some res) : jMi l yX4_greatest wsX4_greatest ({ frames := 1, cells := 0, slots := 0, locals := 22 }) D [(cI, .int), (cL, .long)] [.long p0, .int p1] (wE a cI cL) res (wE a cI cL) := by
  intro sz
  refine Met.ofW (cc := cX4_greatest) (maxL := 4) (ret := (some .int)) (by decide) rfl ?_
  intro p e s m args below meth c s₁ B hml hv
  obtain ⟨rfl, hsz, hP, hK, hD0, hN⟩ := hv
  have hx := B.exec
  have hb := B.bytes
  have hr := B.returns
  have hts := atoms_spec (ws := wsX4_greatest) B.pre
  have hown : s.vm.findClass RX4 = some m.cls := findClass_of_methodNamed B.named
  have hlocks := B.notSynchronized
  subst hsz
  have hD := hD0.self (sz := s.heap.size)
  generalize hAe : va_A (wE a cI cL) s.heap.size = A at hD ⊢
  have hA : ∀ q : Nat, s.heap.size ≤ q → A q := fun q h => by rw [← hAe]; exact Or.inr h
  have hS : va_S A s.heap s.heap [] := va_S.rf
  have hl := lv_entry ([.long p0, .int p1]) (n := 4) (Nat.le_of_ble_eq_true rfl)
  rw [lg_entry_eq]
  generalize (lg_sl ([.long p0, .int p1]) ++ List.replicate (4 - (lg_sl ([.long p0, .int p1])).length) Slot.unset).toArray = ls at hl ⊢
  have hl : lv_has ls 4 [(0, .long p0), (2, .int p1)] := hl
  have hf : pf_X4_greatest p0 p1 = some res := hf
  refine lv_iconst (v := 3) hx hb dX4_greatest_0 (by decide) ?_
  refine lv_istore_n (lv' := [(3, .int (3 : Int32)), (0, .long p0), (2, .int p1)]) hx hb dX4_greatest_1 rfl hl (by decide) rfl (fun ls hl => ?_)
  obtain ⟨k2, hf, hkk2⟩ := jx_bs hf
  have hXk2 : ∀ (xk2 : Unit), k2 = Sum.inl xk2 → ∀ (H : Heap) (locs : List Loc) (ls : Array Slot), va_P D vwCl (wE a cI cL) H → va_D A (wE a cI cL) → va_S A s.heap H locs → lv_has ls 4 [] → jx_Wi p l e wsX4_greatest ({ frames := 1, cells := 0, slots := 0, locals := 22 }) s m [.long p0, .int p1] below meth c D [(cI, .int), (cL, .long)] res (wE a cI cL) A H locs (F0 m 30 ls []) := by
    clear hf hP hD hS hl
    intro xk2 he H locs ls hP hD hS hl
    subst he
    have hf := hkk2
    refine lv_iconst (v := 0) hx hb dX4_greatest_30 (by decide) ?_
    have he := jx_eq hf
    subst he
    exact jx_reti hx hb hr hlocks rfl hK hP hD hS dX4_greatest_31
  have hLk2 : ∀ (n : Nat) (s1 : Int32) (H : Heap) (locs : List Loc) (ls : Array Slot), jx_iter (pf_X4_greatest_s1 p0 p1) n s1 = some k2 → va_P D vwCl (wE a cI cL) H → va_D A (wE a cI cL) → va_S A s.heap H locs → lv_has ls 4 [(0, .long p0), (2, .int p1), (3, .int s1)] → jx_Wi p l e wsX4_greatest ({ frames := 1, cells := 0, slots := 0, locals := 22 }) s m [.long p0, .int p1] below meth c D [(cI, .int), (cL, .long)] res (wE a cI cL) A H locs (F0 m 2 ls []) := by
    clear hf hP hD hS hl
    intro n
    induction n with
    | zero => intro s1 _ _ _ hf; cases hf
    | succ n ihk2 =>
      intro s1 _ _ _ hf hP hD hS hl
      obtain ⟨q3, hf, hgk2⟩ := jx_bs hf
      refine lv_iload_n hx hb dX4_greatest_2 rfl (lv_at hl 2 rfl) ?_
      refine lv_iconst (v := 1) hx hb dX4_greatest_3 (by decide) ?_
      refine lv_icmp_lt (tgt := 30) hx hb dX4_greatest_4 (by decide) (fun hq => ?_) (fun hq => ?_)
      · replace hf := jx_pos hq hf
        have he := jx_eq hf
        subst he
        have he : Sum.inl _ = k2 := jx_eq hgk2
        subst he
        exact hXk2 _ rfl _ _ _ hP hD hS (lv_sub hl [] rfl)
      · replace hf := jx_neg hq hf
        refine lv_lload_n hx hb dX4_greatest_7 rfl (lv_at hl 0 rfl) ?_
        refine lv_iload_n hx hb dX4_greatest_8 rfl (lv_at hl 2 rfl) ?_
        refine lv_iconst (v := 1) hx hb dX4_greatest_9 (by decide) ?_
        refine lv_isub hx hb dX4_greatest_10 ?_
        refine lv_bipush (v := 12) hx hb dX4_greatest_11 (by decide) ?_
        refine lv_imul hx hb dX4_greatest_13 ?_
        refine lv_iload_n hx hb dX4_greatest_14 rfl (lv_at hl 1 rfl) ?_
        refine lv_iadd hx hb dX4_greatest_15 ?_
        obtain ⟨r4, hc, hf⟩ := jx_bs hf
        refine jx_ki (wr := []) (ws2 := (wE a cI cL)) (jx_runSN (As := [.long p0, .int (((s1 - (1 : Int32)) * (12 : Int32)) + p1)]) (rest := []) ⟨hx, hb, hml, hown, hts⟩ (c_X6_isSet l D a cI cL p0 (((s1 - (1 : Int32)) * (12 : Int32)) + p1) r4 hc _) (va_cnB 2 hts gX4_greatest_X6_isSet_n9 rfl rfl rfl (hN (.methodLinkNest "PassedDuties$Reaches" 9 yX6_isSet "PassedDuties") (by decide +kernel)) (hts (.initialized RX6) (by decide +kernel)) (by decide +kernel) ⟨Nat.le_of_ble_eq_true rfl, Nat.le_of_ble_eq_true rfl⟩) (hts (.static yX6_isSet) (by decide +kernel)) hK hN hP hD [] rfl (by decide) rfl hl.1 rfl (Nat.le_of_ble_eq_true rfl) dX4_greatest_16 ⟨Nat.le_of_ble_eq_true rfl, Nat.le_of_ble_eq_true rfl⟩) hP hD hS hA [] [] [] rfl rfl (by decide) (by decide) rfl (by decide) (fun H locs hP hD hS => ?_)
        clear hc
        refine lv_if_eq (tgt := 24) hx hb dX4_greatest_19 (by decide) (fun hq => ?_) (fun hq => ?_)
        · replace hf := jx_pos hq hf
          refine lv_iinc (v := (s1 + (-1 : Int32))) (lv' := [(3, .int (s1 + (-1 : Int32))), (0, .long p0), (2, .int p1)]) hx hb dX4_greatest_24 hl (k := 2) rfl rfl (by decide) rfl (fun ls hl => ?_)
          refine lv_goto (tgt := 2) hx hb dX4_greatest_27 (by decide) ?_
          have he := jx_eq hf
          subst he
          exact ihk2 (s1 + (-1 : Int32)) _ _ _ hgk2 hP hD hS (lv_sub hl [1, 2, 0] rfl)
        · replace hf := jx_neg hq hf
          refine lv_iload_n hx hb dX4_greatest_22 rfl (lv_at hl 2 rfl) ?_
          have he := jx_eq hf
          subst he
          have he : Sum.inr _ = k2 := jx_eq hgk2
          subst he
          have hf := hkk2
          have he := jx_eq hf
          subst he
          exact jx_reti hx hb hr hlocks rfl hK hP hD hS dX4_greatest_23
  exact hLk2 jx_F (3 : Int32) _ _ _ hf hP hD hS (lv_sub hl [1, 2, 0] rfl)
set_option maxHeartbeats 4000000 in
set_option maxRecDepth 100000 in
theorem c_X4_letThrough (l : Launch) (D : va_G) (a : Nat → Nat) (cI cL : ClassId) (p0 : Int32) (res : Int64) (hf : pf_X4_letThrough p0 = some res) : jMl l yX4_letThrough wsX4_letThrough ({ frames := 0, cells := 0, slots := 0, locals := 0 }) D [(cI, .int), (cL, .long)] [.int p0] (wE a cI cL) res (wE a cI cL) := by
  intro sz
  refine Met.ofW (cc := cX4_letThrough) (maxL := 1) (ret := (some .long)) (by decide) rfl ?_
  intro p e s m args below meth c s₁ B hml hv
  obtain ⟨rfl, hsz, hP, hK, hD0, hN⟩ := hv
  have hx := B.exec
  have hb := B.bytes
  have hr := B.returns
  have hts := atoms_spec (ws := wsX4_letThrough) B.pre
  have hown : s.vm.findClass RX4 = some m.cls := findClass_of_methodNamed B.named
  have hlocks := B.notSynchronized
  subst hsz
  have hD := hD0.self (sz := s.heap.size)
  generalize hAe : va_A (wE a cI cL) s.heap.size = A at hD ⊢
  have hA : ∀ q : Nat, s.heap.size ≤ q → A q := fun q h => by rw [← hAe]; exact Or.inr h
  have hS : va_S A s.heap s.heap [] := va_S.rf
  have hl := lv_entry ([.int p0]) (n := 1) (Nat.le_of_ble_eq_true rfl)
  rw [lg_entry_eq]
  generalize (lg_sl ([.int p0]) ++ List.replicate (1 - (lg_sl ([.int p0])).length) Slot.unset).toArray = ls at hl ⊢
  have hl : lv_has ls 1 [(0, .int p0)] := hl
  have hf : pf_X4_letThrough p0 = some res := hf
  refine lv_iload_n hx hb dX4_letThrough_0 rfl (lv_at hl 0 rfl) ?_
  refine lv_iconst (v := -1) hx hb dX4_letThrough_1 (by decide) ?_
  refine lv_icmp_ne (tgt := 9) hx hb dX4_letThrough_2 (by decide) (fun hq => ?_) (fun hq => ?_)
  · replace hf := jx_pos hq hf
    refine lv_ldc2 (v := 68719476735) hx hb hown (hts (.constantLong RX4 21 (68719476735)) (by decide +kernel)) dX4_letThrough_9 ?_
    refine lv_ldc2 (v := -1) hx hb hown (hts (.constantLong RX4 13 (-1)) (by decide +kernel)) dX4_letThrough_12 ?_
    refine lv_iload_n hx hb dX4_letThrough_15 rfl (lv_at hl 0 rfl) ?_
    refine lv_bipush (v := 12) hx hb dX4_letThrough_16 (by decide) ?_
    refine lv_imul hx hb dX4_letThrough_18 ?_
    refine lv_lshl (v := ((-1 : Int64) <<< (((p0 * (12 : Int32))).toInt64 &&& 63))) hx hb dX4_letThrough_19 rfl ?_
    refine lv_land hx hb dX4_letThrough_20 ?_
    have he := jx_eq hf
    subst he
    exact jx_retl hx hb hr hlocks rfl hK hP hD hS dX4_letThrough_21
  · replace hf := jx_negn hq hf
    refine lv_lconst (v := 0) hx hb dX4_letThrough_5 (by decide) ?_
    refine lv_goto (tgt := 21) hx hb dX4_letThrough_6 (by decide) ?_
    have he := jx_eq hf
    subst he
    exact jx_retl hx hb hr hlocks rfl hK hP hD hS dX4_letThrough_21
set_option maxHeartbeats 4000000 in
set_option maxRecDepth 100000 in
theorem c_X4_bars (l : Launch) (D : va_G) (a : Nat → Nat) (cI cL : ClassId) (p0 : Int64) (res : Int32) (hf : pf_X4_bars p0 = some res) : jMi l yX4_bars wsX4_bars ({ frames := 1, cells := 0, slots := 0, locals := 21 }) D [(cI, .int), (cL, .long)] [.long p0] (wE a cI cL) res (wE a cI cL) := by
  intro sz
  refine Met.ofW (cc := cX4_bars) (maxL := 2) (ret := (some .int)) (by decide) rfl ?_
  intro p e s m args below meth c s₁ B hml hv
  obtain ⟨rfl, hsz, hP, hK, hD0, hN⟩ := hv
  have hx := B.exec
  have hb := B.bytes
  have hr := B.returns
  have hts := atoms_spec (ws := wsX4_bars) B.pre
  have hown : s.vm.findClass RX4 = some m.cls := findClass_of_methodNamed B.named
  have hlocks := B.notSynchronized
  subst hsz
  have hD := hD0.self (sz := s.heap.size)
  generalize hAe : va_A (wE a cI cL) s.heap.size = A at hD ⊢
  have hA : ∀ q : Nat, s.heap.size ≤ q → A q := fun q h => by rw [← hAe]; exact Or.inr h
  have hS : va_S A s.heap s.heap [] := va_S.rf
  have hl := lv_entry ([.long p0]) (n := 2) (Nat.le_of_ble_eq_true rfl)
  rw [lg_entry_eq]
  generalize (lg_sl ([.long p0]) ++ List.replicate (2 - (lg_sl ([.long p0])).length) Slot.unset).toArray = ls at hl ⊢
  have hl : lv_has ls 2 [(0, .long p0)] := hl
  have hf : pf_X4_bars p0 = some res := hf
  refine lv_lload_n hx hb dX4_bars_0 rfl (lv_at hl 0 rfl) ?_
  obtain ⟨r1, hc, hf⟩ := jx_bs hf
  refine jx_ki (wr := []) (ws2 := (wE a cI cL)) (jx_runS (As := [.long p0]) (rest := []) ⟨hx, hb, hml, hown, hts⟩ (c_X4_itemsIn l D a cI cL p0 r1 hc _) (va_cwS 1 hts gX4_bars_X4_itemsIn rfl rfl rfl (by decide +kernel) ⟨Nat.le_of_ble_eq_true rfl, Nat.le_of_ble_eq_true rfl⟩) hK hN hP hD [] rfl (by decide) rfl hl.1 rfl (Nat.le_of_ble_eq_true rfl) dX4_bars_1 ⟨Nat.le_of_ble_eq_true rfl, Nat.le_of_ble_eq_true rfl⟩) hP hD hS hA [] [] [] rfl rfl (by decide) (by decide) rfl (by decide) (fun H locs hP hD hS => ?_)
  clear hc
  refine lv_bipush (v := 6) hx hb dX4_bars_4 (by decide) ?_
  refine lv_ishr hx hb dX4_bars_6 ?_
  have he := jx_eq hf
  subst he
  exact jx_reti hx hb hr hlocks rfl hK hP hD hS dX4_bars_7
set_option maxHeartbeats 4000000 in
set_option maxRecDepth 100000 in
theorem c_X4_duties (l : Launch) (D : va_G) (a : Nat → Nat) (cI cL : ClassId) (p0 : Int64) (res : Int32) (hf : pf_X4_duties p0 = some res) : jMi l yX4_duties wsX4_duties ({ frames := 1, cells := 0, slots := 0, locals := 21 }) D [(cI, .int), (cL, .long)] [.long p0] (wE a cI cL) res (wE a cI cL) := by
  intro sz
  refine Met.ofW (cc := cX4_duties) (maxL := 2) (ret := (some .int)) (by decide) rfl ?_
  intro p e s m args below meth c s₁ B hml hv
  obtain ⟨rfl, hsz, hP, hK, hD0, hN⟩ := hv
  have hx := B.exec
  have hb := B.bytes
  have hr := B.returns
  have hts := atoms_spec (ws := wsX4_duties) B.pre
  have hown : s.vm.findClass RX4 = some m.cls := findClass_of_methodNamed B.named
  have hlocks := B.notSynchronized
  subst hsz
  have hD := hD0.self (sz := s.heap.size)
  generalize hAe : va_A (wE a cI cL) s.heap.size = A at hD ⊢
  have hA : ∀ q : Nat, s.heap.size ≤ q → A q := fun q h => by rw [← hAe]; exact Or.inr h
  have hS : va_S A s.heap s.heap [] := va_S.rf
  have hl := lv_entry ([.long p0]) (n := 2) (Nat.le_of_ble_eq_true rfl)
  rw [lg_entry_eq]
  generalize (lg_sl ([.long p0]) ++ List.replicate (2 - (lg_sl ([.long p0])).length) Slot.unset).toArray = ls at hl ⊢
  have hl : lv_has ls 2 [(0, .long p0)] := hl
  have hf : pf_X4_duties p0 = some res := hf
  refine lv_lload_n hx hb dX4_duties_0 rfl (lv_at hl 0 rfl) ?_
  obtain ⟨r1, hc, hf⟩ := jx_bs hf
  refine jx_ki (wr := []) (ws2 := (wE a cI cL)) (jx_runS (As := [.long p0]) (rest := []) ⟨hx, hb, hml, hown, hts⟩ (c_X4_itemsIn l D a cI cL p0 r1 hc _) (va_cwS 1 hts gX4_duties_X4_itemsIn rfl rfl rfl (by decide +kernel) ⟨Nat.le_of_ble_eq_true rfl, Nat.le_of_ble_eq_true rfl⟩) hK hN hP hD [] rfl (by decide) rfl hl.1 rfl (Nat.le_of_ble_eq_true rfl) dX4_duties_1 ⟨Nat.le_of_ble_eq_true rfl, Nat.le_of_ble_eq_true rfl⟩) hP hD hS hA [] [] [] rfl rfl (by decide) (by decide) rfl (by decide) (fun H locs hP hD hS => ?_)
  clear hc
  refine lv_bipush (v := 63) hx hb dX4_duties_4 (by decide) ?_
  refine lv_iand hx hb dX4_duties_6 ?_
  have he := jx_eq hf
  subst he
  exact jx_reti hx hb hr hlocks rfl hK hP hD hS dX4_duties_7
set_option maxHeartbeats 4000000 in
set_option maxRecDepth 100000 in
theorem c_X4_looser (l : Launch) (D : va_G) (a : Nat → Nat) (cI cL : ClassId) (p0 : Int64) (p1 : Int64) (res : Int32) (hf : pf_X4_looser p0 p1 = some res) : jMi l yX4_looser wsX4_looser ({ frames := 0, cells := 0, slots := 0, locals := 0 }) D [(cI, .int), (cL, .long)] [.long p0, .long p1] (wE a cI cL) res (wE a cI cL) := by
  intro sz
  refine Met.ofW (cc := cX4_looser) (maxL := 6) (ret := (some .int)) (by decide) rfl ?_
  intro p e s m args below meth c s₁ B hml hv
  obtain ⟨rfl, hsz, hP, hK, hD0, hN⟩ := hv
  have hx := B.exec
  have hb := B.bytes
  have hr := B.returns
  have hts := atoms_spec (ws := wsX4_looser) B.pre
  have hown : s.vm.findClass RX4 = some m.cls := findClass_of_methodNamed B.named
  have hlocks := B.notSynchronized
  subst hsz
  have hD := hD0.self (sz := s.heap.size)
  generalize hAe : va_A (wE a cI cL) s.heap.size = A at hD ⊢
  have hA : ∀ q : Nat, s.heap.size ≤ q → A q := fun q h => by rw [← hAe]; exact Or.inr h
  have hS : va_S A s.heap s.heap [] := va_S.rf
  have hl := lv_entry ([.long p0, .long p1]) (n := 6) (Nat.le_of_ble_eq_true rfl)
  rw [lg_entry_eq]
  generalize (lg_sl ([.long p0, .long p1]) ++ List.replicate (6 - (lg_sl ([.long p0, .long p1])).length) Slot.unset).toArray = ls at hl ⊢
  have hl : lv_has ls 6 [(0, .long p0), (2, .long p1)] := hl
  have hf : pf_X4_looser p0 p1 = some res := hf
  refine lv_lload_n hx hb dX4_looser_0 rfl (lv_at hl 0 rfl) ?_
  refine lv_lload_n hx hb dX4_looser_1 rfl (lv_at hl 1 rfl) ?_
  refine lv_ldc2 (v := -1) hx hb hown (hts (.constantLong RX4 13 (-1)) (by decide +kernel)) dX4_looser_2 ?_
  refine lv_lxor hx hb dX4_looser_5 ?_
  refine lv_land hx hb dX4_looser_6 ?_
  refine lv_lconst (v := 0) hx hb dX4_looser_7 (by decide) ?_
  refine W.lcmp hx hb dX4_looser_8 ?_
  refine W.eq (g2 := F0 m 9 ls [.int (lg_cmp (p0 &&& (p1 ^^^ (-1 : Int64))) (0 : Int64))]) rfl ?_
  obtain ⟨j1, hf, hkj1⟩ := jx_bs hf
  have hJj1 : ∀ (H : Heap) (locs : List Loc) (ls : Array Slot), va_P D vwCl (wE a cI cL) H → va_D A (wE a cI cL) → va_S A s.heap H locs → lv_has ls 6 [(0, .long p0), (2, .long p1)] → jx_Wi p l e wsX4_looser ({ frames := 0, cells := 0, slots := 0, locals := 0 }) s m [.long p0, .long p1] below meth c D [(cI, .int), (cL, .long)] res (wE a cI cL) A H locs (F0 m 17 ls [.int j1]) := by
    clear hf hP hD hS hl
    intro H locs ls hP hD hS hl
    have hf := hkj1
    refine lv_istore (lv' := [(4, .int j1), (0, .long p0), (2, .long p1)]) hx hb dX4_looser_17 hl (by decide) rfl (fun ls hl => ?_)
    refine lv_lload_n hx hb dX4_looser_19 rfl (lv_at hl 2 rfl) ?_
    refine lv_lload_n hx hb dX4_looser_20 rfl (lv_at hl 1 rfl) ?_
    refine lv_ldc2 (v := -1) hx hb hown (hts (.constantLong RX4 13 (-1)) (by decide +kernel)) dX4_looser_21 ?_
    refine lv_lxor hx hb dX4_looser_24 ?_
    refine lv_land hx hb dX4_looser_25 ?_
    refine lv_lconst (v := 0) hx hb dX4_looser_26 (by decide) ?_
    refine W.lcmp hx hb dX4_looser_27 ?_
    refine W.eq (g2 := F0 m 28 ls [.int (lg_cmp (p1 &&& (p0 ^^^ (-1 : Int64))) (0 : Int64))]) rfl ?_
    obtain ⟨j2, hf, hkj2⟩ := jx_bs hf
    have hJj2 : ∀ (H : Heap) (locs : List Loc) (ls : Array Slot), va_P D vwCl (wE a cI cL) H → va_D A (wE a cI cL) → va_S A s.heap H locs → lv_has ls 6 [(4, .int j1)] → jx_Wi p l e wsX4_looser ({ frames := 0, cells := 0, slots := 0, locals := 0 }) s m [.long p0, .long p1] below meth c D [(cI, .int), (cL, .long)] res (wE a cI cL) A H locs (F0 m 36 ls [.int j2]) := by
      clear hf hP hD hS hl
      intro H locs ls hP hD hS hl
      have hf := hkj2
      refine lv_istore (lv' := [(5, .int j2), (4, .int j1)]) hx hb dX4_looser_36 hl (by decide) rfl (fun ls hl => ?_)
      refine lv_iload hx hb dX4_looser_38 (lv_at hl 1 rfl) ?_
      refine lv_iload hx hb dX4_looser_40 (lv_at hl 0 rfl) ?_
      refine lv_iadd hx hb dX4_looser_42 ?_
      have he := jx_eq hf
      subst he
      exact jx_reti hx hb hr hlocks rfl hK hP hD hS dX4_looser_43
    refine lv_if_ne (tgt := 35) hx hb dX4_looser_28 (by decide) (fun hq => ?_) (fun hq => ?_)
    · replace hf := jx_pos hq hf
      refine lv_iconst (v := 0) hx hb dX4_looser_35 (by decide) ?_
      have he := jx_eq hf
      subst he
      exact hJj2 _ _ _ hP hD hS (lv_sub hl [0] rfl)
    · replace hf := jx_negn hq hf
      refine lv_iconst (v := 2) hx hb dX4_looser_31 (by decide) ?_
      refine lv_goto (tgt := 36) hx hb dX4_looser_32 (by decide) ?_
      have he := jx_eq hf
      subst he
      exact hJj2 _ _ _ hP hD hS (lv_sub hl [0] rfl)
  refine lv_if_ne (tgt := 16) hx hb dX4_looser_9 (by decide) (fun hq => ?_) (fun hq => ?_)
  · replace hf := jx_pos hq hf
    refine lv_iconst (v := 0) hx hb dX4_looser_16 (by decide) ?_
    have he := jx_eq hf
    subst he
    exact hJj1 _ _ _ hP hD hS (lv_sub hl [0, 1] rfl)
  · replace hf := jx_negn hq hf
    refine lv_iconst (v := 1) hx hb dX4_looser_12 (by decide) ?_
    refine lv_goto (tgt := 17) hx hb dX4_looser_13 (by decide) ?_
    have he := jx_eq hf
    subst he
    exact hJj1 _ _ _ hP hD hS (lv_sub hl [0, 1] rfl)
set_option maxHeartbeats 4000000 in
set_option maxRecDepth 100000 in
theorem c_X6_isItem (l : Launch) (D : va_G) (a : Nat → Nat) (cI cL : ClassId) (p0 : Int32) (res : Int32) (hf : pf_X6_isItem p0 = some res) : jMi l yX6_isItem wsX6_isItem ({ frames := 0, cells := 0, slots := 0, locals := 0 }) D [(cI, .int), (cL, .long)] [.int p0] (wE a cI cL) res (wE a cI cL) := by
  intro sz
  refine Met.ofW (cc := cX6_isItem) (maxL := 1) (ret := (some .boolean)) (by decide) rfl ?_
  intro p e s m args below meth c s₁ B hml hv
  obtain ⟨rfl, hsz, hP, hK, hD0, hN⟩ := hv
  have hx := B.exec
  have hb := B.bytes
  have hr := B.returns
  have hts := atoms_spec (ws := wsX6_isItem) B.pre
  have hown : s.vm.findClass RX6 = some m.cls := findClass_of_methodNamed B.named
  have hlocks := B.notSynchronized
  subst hsz
  have hD := hD0.self (sz := s.heap.size)
  generalize hAe : va_A (wE a cI cL) s.heap.size = A at hD ⊢
  have hA : ∀ q : Nat, s.heap.size ≤ q → A q := fun q h => by rw [← hAe]; exact Or.inr h
  have hS : va_S A s.heap s.heap [] := va_S.rf
  have hl := lv_entry ([.int p0]) (n := 1) (Nat.le_of_ble_eq_true rfl)
  rw [lg_entry_eq]
  generalize (lg_sl ([.int p0]) ++ List.replicate (1 - (lg_sl ([.int p0])).length) Slot.unset).toArray = ls at hl ⊢
  have hl : lv_has ls 1 [(0, .int p0)] := hl
  have hf : pf_X6_isItem p0 = some res := hf
  refine lv_iload_n hx hb dX6_isItem_0 rfl (lv_at hl 0 rfl) ?_
  refine lv_if_lt (tgt := 14) hx hb dX6_isItem_1 (by decide) (fun hq => ?_) (fun hq => ?_)
  · replace hf := jx_pos hq hf
    refine lv_iconst (v := 0) hx hb dX6_isItem_14 (by decide) ?_
    have he := jx_eq hf
    subst he
    exact jx_retz hx hb hr hlocks narrow_b0 rfl hK hP hD hS dX6_isItem_15
  · replace hf := jx_neg hq hf
    refine lv_iload_n hx hb dX6_isItem_4 rfl (lv_at hl 0 rfl) ?_
    refine lv_bipush (v := 12) hx hb dX6_isItem_5 (by decide) ?_
    refine lv_icmp_ge (tgt := 14) hx hb dX6_isItem_7 (by decide) (fun hq => ?_) (fun hq => ?_)
    · replace hf := jx_pos hq hf
      refine lv_iconst (v := 0) hx hb dX6_isItem_14 (by decide) ?_
      have he := jx_eq hf
      subst he
      exact jx_retz hx hb hr hlocks narrow_b0 rfl hK hP hD hS dX6_isItem_15
    · replace hf := jx_neg hq hf
      refine lv_iconst (v := 1) hx hb dX6_isItem_10 (by decide) ?_
      refine lv_goto (tgt := 15) hx hb dX6_isItem_11 (by decide) ?_
      have he := jx_eq hf
      subst he
      exact jx_retz hx hb hr hlocks narrow_b1 rfl hK hP hD hS dX6_isItem_15
set_option maxHeartbeats 4000000 in
set_option maxRecDepth 100000 in
theorem c_X6_mix (l : Launch) (D : va_G) (a : Nat → Nat) (cI cL : ClassId) (p0 : Int64) (p1 : Int64) (res : Int64) (hf : pf_X6_mix p0 p1 = some res) : jMl l yX6_mix wsX6_mix ({ frames := 0, cells := 0, slots := 0, locals := 0 }) D [(cI, .int), (cL, .long)] [.long p0, .long p1] (wE a cI cL) res (wE a cI cL) := by
  intro sz
  refine Met.ofW (cc := cX6_mix) (maxL := 4) (ret := (some .long)) (by decide) rfl ?_
  intro p e s m args below meth c s₁ B hml hv
  obtain ⟨rfl, hsz, hP, hK, hD0, hN⟩ := hv
  have hx := B.exec
  have hb := B.bytes
  have hr := B.returns
  have hts := atoms_spec (ws := wsX6_mix) B.pre
  have hown : s.vm.findClass RX6 = some m.cls := findClass_of_methodNamed B.named
  have hlocks := B.notSynchronized
  subst hsz
  have hD := hD0.self (sz := s.heap.size)
  generalize hAe : va_A (wE a cI cL) s.heap.size = A at hD ⊢
  have hA : ∀ q : Nat, s.heap.size ≤ q → A q := fun q h => by rw [← hAe]; exact Or.inr h
  have hS : va_S A s.heap s.heap [] := va_S.rf
  have hl := lv_entry ([.long p0, .long p1]) (n := 4) (Nat.le_of_ble_eq_true rfl)
  rw [lg_entry_eq]
  generalize (lg_sl ([.long p0, .long p1]) ++ List.replicate (4 - (lg_sl ([.long p0, .long p1])).length) Slot.unset).toArray = ls at hl ⊢
  have hl : lv_has ls 4 [(0, .long p0), (2, .long p1)] := hl
  have hf : pf_X6_mix p0 p1 = some res := hf
  refine lv_ldc2 (v := 31) hx hb hown (hts (.constantLong RX6 222 (31)) (by decide +kernel)) dX6_mix_0 ?_
  refine lv_lload_n hx hb dX6_mix_3 rfl (lv_at hl 0 rfl) ?_
  refine lv_lmul hx hb dX6_mix_4 ?_
  refine lv_lload_n hx hb dX6_mix_5 rfl (lv_at hl 1 rfl) ?_
  refine lv_ladd hx hb dX6_mix_6 ?_
  have he := jx_eq hf
  subst he
  exact jx_retl hx hb hr hlocks rfl hK hP hD hS dX6_mix_7
end
