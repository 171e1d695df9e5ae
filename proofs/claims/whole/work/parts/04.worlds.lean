/-! what the cells hold: by class, and all of them -/
abbrev wE (a : Nat → Nat) (cI cL : ClassId) : va_W := []
abbrev wPg (a : Nat → Nat) (cI cL : ClassId) (pl : Int32) (cd : (Nat → Int32)) : va_W := [((a 1), .inr (2, [.ref (a 2), .int pl])), ((a 2), .inl (cI, 24, .inl cd))]
abbrev wBk (a : Nat → Nat) (cI cL : ClassId) (bs : Int32) (br : (Nat → Int64)) : va_W := [((a 3), .inr (0, [.ref (a 4), .int bs])), ((a 4), .inl (cL, 8, .inr (.inl br)))]
abbrev wPt (a : Nat → Nat) (cI cL : ClassId) (un : (Nat → Int32)) (ow : (Nat → Int64)) (ki : (Nat → Int32)) (th : (Nat → Int64)) (cm : (Nat → Int64)) (tr : Int32) (tl : Int32) (ch : Int32) : va_W := [((a 5), .inr (3, [.ref (a 6), .ref (a 7), .ref (a 8), .ref (a 9), .ref (a 10), .int tr, .int tl, .int ch])), ((a 6), .inl (cI, 8, .inl un)), ((a 7), .inl (cL, 8, .inr (.inl ow))), ((a 8), .inl (cI, 64, .inl ki)), ((a 9), .inl (cL, 64, .inr (.inl th))), ((a 10), .inl (cL, 8, .inr (.inl cm)))]
abbrev wSp (a : Nat → Nat) (b : Nat) (cI cL : ClassId) (ow : (Nat → Int64)) (th : (Nat → Int64)) (tr : Int32) (tl : Int32) (ch : Int32) (ar : (Nat → Int64)) : va_W := [((a 5), .inr (3, [.ref (a 6), .ref (a 7), .ref (a 8), .ref (a 9), .ref (a 10), .int tr, .int tl, .int ch])), ((a 7), .inl (cL, 8, .inr (.inl ow))), ((a 9), .inl (cL, 64, .inr (.inl th))), (b, .inl (cL, 8, .inr (.inl ar)))]
abbrev wAr (a : Nat → Nat) (b : Nat) (cI cL : ClassId) (ar : (Nat → Int64)) : va_W := [(b, .inl (cL, 8, .inr (.inl ar)))]
abbrev wIa (a : Nat → Nat) (b : Nat) (cI cL : ClassId) (ia : (Nat → Int32)) : va_W := [(b, .inl (cI, 64, .inl ia))]
abbrev wWy (a : Nat → Nat) (cI cL : ClassId) (un : (Nat → Int32)) (ow : (Nat → Int64)) (ki : (Nat → Int32)) (th : (Nat → Int64)) (cm : (Nat → Int64)) (tr : Int32) (tl : Int32) (ch : Int32) (jl : (Nat → Int32)) : va_W := [((a 11), .inr (4, [.ref (a 5), .ref (a 12)])), ((a 12), .inl (cI, 8, .inl jl)), ((a 5), .inr (3, [.ref (a 6), .ref (a 7), .ref (a 8), .ref (a 9), .ref (a 10), .int tr, .int tl, .int ch])), ((a 6), .inl (cI, 8, .inl un)), ((a 7), .inl (cL, 8, .inr (.inl ow))), ((a 8), .inl (cI, 64, .inl ki)), ((a 9), .inl (cL, 64, .inr (.inl th))), ((a 10), .inl (cL, 8, .inr (.inl cm)))]
abbrev wCl (a : Nat → Nat) (cI cL : ClassId) (un : (Nat → Int32)) (ow : (Nat → Int64)) (ki : (Nat → Int32)) (th : (Nat → Int64)) (cm : (Nat → Int64)) (tr : Int32) (tl : Int32) (ch : Int32) (bz : (Nat → Int64)) (rw : (Nat → Int64)) (kf : Int32) : va_W := [((a 13), .inr (1, [.ref (a 5), .ref (a 14), .ref (a 15), .int kf])), ((a 14), .inl (cL, 256, .inr (.inl bz))), ((a 15), .inl (cL, 8, .inr (.inl rw))), ((a 5), .inr (3, [.ref (a 6), .ref (a 7), .ref (a 8), .ref (a 9), .ref (a 10), .int tr, .int tl, .int ch])), ((a 6), .inl (cI, 8, .inl un)), ((a 7), .inl (cL, 8, .inr (.inl ow))), ((a 8), .inl (cI, 64, .inl ki)), ((a 9), .inl (cL, 64, .inr (.inl th))), ((a 10), .inl (cL, 8, .inr (.inl cm)))]
abbrev wX (a : Nat → Nat) (cI cL : ClassId) (pl : Int32) (cd : (Nat → Int32)) (bs : Int32) (br : (Nat → Int64)) (un : (Nat → Int32)) (ow : (Nat → Int64)) (ki : (Nat → Int32)) (th : (Nat → Int64)) (cm : (Nat → Int64)) (tr : Int32) (tl : Int32) (ch : Int32) (jl : (Nat → Int32)) (bz : (Nat → Int64)) (rw : (Nat → Int64)) (kf : Int32) : va_W := [((a 0), .inr (5, [.ref (a 1), .ref (a 3), .ref (a 5), .ref (a 11), .ref (a 13)])), ((a 1), .inr (2, [.ref (a 2), .int pl])), ((a 2), .inl (cI, 24, .inl cd)), ((a 3), .inr (0, [.ref (a 4), .int bs])), ((a 4), .inl (cL, 8, .inr (.inl br))), ((a 5), .inr (3, [.ref (a 6), .ref (a 7), .ref (a 8), .ref (a 9), .ref (a 10), .int tr, .int tl, .int ch])), ((a 6), .inl (cI, 8, .inl un)), ((a 7), .inl (cL, 8, .inr (.inl ow))), ((a 8), .inl (cI, 64, .inl ki)), ((a 9), .inl (cL, 64, .inr (.inl th))), ((a 10), .inl (cL, 8, .inr (.inl cm))), ((a 11), .inr (4, [.ref (a 5), .ref (a 12)])), ((a 12), .inl (cI, 8, .inl jl)), ((a 13), .inr (1, [.ref (a 5), .ref (a 14), .ref (a 15), .int kf])), ((a 14), .inl (cL, 256, .inr (.inl bz))), ((a 15), .inl (cL, 8, .inr (.inl rw)))]
abbrev wM (a : Nat → Nat) (cI cL : ClassId) (nl : Int32) (np : (Nat → Int32)) (nt : Int32) (nr : (Nat → Int32)) (nh : Int32) (ns : (Nat → Int32)) (nk : (Nat → Int32)) (ne : Int32) (nw : Int32) (na : (Nat → Int32)) (nf : (Nat → Int32)) (nc : Int32) (ng : (Nat → Int32)) (nx : Int64) : va_W := [((a 0), .inr (6, [.int nl, .ref (a 1), .int nt, .ref (a 2), .int nh, .ref (a 3), .ref (a 4), .int ne, .int nw, .ref (a 5), .ref (a 6), .int nc, .ref (a 7), .long nx])), ((a 1), .inl (cI, 24, .inl np)), ((a 2), .inl (cI, 108, .inl nr)), ((a 3), .inl (cI, 8, .inl ns)), ((a 4), .inl (cI, 64, .inl nk)), ((a 5), .inl (cI, 8, .inl na)), ((a 6), .inl (cI, 8, .inl nf)), ((a 7), .inl (cI, 48, .inl ng))]
theorem jx_sw2 (x : Int32) (h0 : ¬ x = 0) (h1 : ¬ x = 1) (h2 : ¬ x = 2) : x.toInt < 0 ∨ 2 < x.toInt := by
  have e0 : x.toInt ≠ 0 := fun h => h0 (Int32.toInt_inj.mp (h.trans (by decide)))
  have e1 : x.toInt ≠ 1 := fun h => h1 (Int32.toInt_inj.mp (h.trans (by decide)))
  have e2 : x.toInt ≠ 2 := fun h => h2 (Int32.toInt_inj.mp (h.trans (by decide)))
  omega
theorem jx_sw6 (x : Int32) (h0 : ¬ x = 0) (h1 : ¬ x = 1) (h2 : ¬ x = 2) (h3 : ¬ x = 3) (h4 : ¬ x = 4) (h5 : ¬ x = 5) (h6 : ¬ x = 6) : x.toInt < 0 ∨ 6 < x.toInt := by
  have e0 : x.toInt ≠ 0 := fun h => h0 (Int32.toInt_inj.mp (h.trans (by decide)))
  have e1 : x.toInt ≠ 1 := fun h => h1 (Int32.toInt_inj.mp (h.trans (by decide)))
  have e2 : x.toInt ≠ 2 := fun h => h2 (Int32.toInt_inj.mp (h.trans (by decide)))
  have e3 : x.toInt ≠ 3 := fun h => h3 (Int32.toInt_inj.mp (h.trans (by decide)))
  have e4 : x.toInt ≠ 4 := fun h => h4 (Int32.toInt_inj.mp (h.trans (by decide)))
  have e5 : x.toInt ≠ 5 := fun h => h5 (Int32.toInt_inj.mp (h.trans (by decide)))
  have e6 : x.toInt ≠ 6 := fun h => h6 (Int32.toInt_inj.mp (h.trans (by decide)))
  omega
theorem jx_sw7 (x : Int32) (h0 : ¬ x = 0) (h1 : ¬ x = 1) (h2 : ¬ x = 2) (h3 : ¬ x = 3) (h4 : ¬ x = 4) (h5 : ¬ x = 5) (h6 : ¬ x = 6) (h7 : ¬ x = 7) : x.toInt < 0 ∨ 7 < x.toInt := by
  have e0 : x.toInt ≠ 0 := fun h => h0 (Int32.toInt_inj.mp (h.trans (by decide)))
  have e1 : x.toInt ≠ 1 := fun h => h1 (Int32.toInt_inj.mp (h.trans (by decide)))
  have e2 : x.toInt ≠ 2 := fun h => h2 (Int32.toInt_inj.mp (h.trans (by decide)))
  have e3 : x.toInt ≠ 3 := fun h => h3 (Int32.toInt_inj.mp (h.trans (by decide)))
  have e4 : x.toInt ≠ 4 := fun h => h4 (Int32.toInt_inj.mp (h.trans (by decide)))
  have e5 : x.toInt ≠ 5 := fun h => h5 (Int32.toInt_inj.mp (h.trans (by decide)))
  have e6 : x.toInt ≠ 6 := fun h => h6 (Int32.toInt_inj.mp (h.trans (by decide)))
  have e7 : x.toInt ≠ 7 := fun h => h7 (Int32.toInt_inj.mp (h.trans (by decide)))
  omega
theorem jx_sw18 (x : Int32) (h0 : ¬ x = 0) (h1 : ¬ x = 1) (h2 : ¬ x = 2) (h3 : ¬ x = 3) (h4 : ¬ x = 4) (h5 : ¬ x = 5) (h6 : ¬ x = 6) (h7 : ¬ x = 7) (h8 : ¬ x = 8) (h9 : ¬ x = 9) (h10 : ¬ x = 10) (h11 : ¬ x = 11) (h12 : ¬ x = 12) (h13 : ¬ x = 13) (h14 : ¬ x = 14) (h15 : ¬ x = 15) (h16 : ¬ x = 16) (h17 : ¬ x = 17) (h18 : ¬ x = 18) : x.toInt < 0 ∨ 18 < x.toInt := by
  have e0 : x.toInt ≠ 0 := fun h => h0 (Int32.toInt_inj.mp (h.trans (by decide)))
  have e1 : x.toInt ≠ 1 := fun h => h1 (Int32.toInt_inj.mp (h.trans (by decide)))
  have e2 : x.toInt ≠ 2 := fun h => h2 (Int32.toInt_inj.mp (h.trans (by decide)))
  have e3 : x.toInt ≠ 3 := fun h => h3 (Int32.toInt_inj.mp (h.trans (by decide)))
  have e4 : x.toInt ≠ 4 := fun h => h4 (Int32.toInt_inj.mp (h.trans (by decide)))
  have e5 : x.toInt ≠ 5 := fun h => h5 (Int32.toInt_inj.mp (h.trans (by decide)))
  have e6 : x.toInt ≠ 6 := fun h => h6 (Int32.toInt_inj.mp (h.trans (by decide)))
  have e7 : x.toInt ≠ 7 := fun h => h7 (Int32.toInt_inj.mp (h.trans (by decide)))
  have e8 : x.toInt ≠ 8 := fun h => h8 (Int32.toInt_inj.mp (h.trans (by decide)))
  have e9 : x.toInt ≠ 9 := fun h => h9 (Int32.toInt_inj.mp (h.trans (by decide)))
  have e10 : x.toInt ≠ 10 := fun h => h10 (Int32.toInt_inj.mp (h.trans (by decide)))
  have e11 : x.toInt ≠ 11 := fun h => h11 (Int32.toInt_inj.mp (h.trans (by decide)))
  have e12 : x.toInt ≠ 12 := fun h => h12 (Int32.toInt_inj.mp (h.trans (by decide)))
  have e13 : x.toInt ≠ 13 := fun h => h13 (Int32.toInt_inj.mp (h.trans (by decide)))
  have e14 : x.toInt ≠ 14 := fun h => h14 (Int32.toInt_inj.mp (h.trans (by decide)))
  have e15 : x.toInt ≠ 15 := fun h => h15 (Int32.toInt_inj.mp (h.trans (by decide)))
  have e16 : x.toInt ≠ 16 := fun h => h16 (Int32.toInt_inj.mp (h.trans (by decide)))
  have e17 : x.toInt ≠ 17 := fun h => h17 (Int32.toInt_inj.mp (h.trans (by decide)))
  have e18 : x.toInt ≠ 18 := fun h => h18 (Int32.toInt_inj.mp (h.trans (by decide)))
  omega
