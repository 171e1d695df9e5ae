/-! what comes to a part by joins: sets of eight, by rounds -/
def rch (E : Nat → Nat → Bool) (src : Nat → Bool) : Nat → Nat → Bool
  | 0, p => src p
  | n + 1, p => rch E src n p || (List.range 8).any (fun q => E p q && rch E src n q)
theorem rch_S {E : Nat → Nat → Bool} {src : Nat → Bool} {n p : Nat} : rch E src (n + 1) p = true ↔ rch E src n p = true ∨ ∃ q, q < 8 ∧ E p q = true ∧ rch E src n q = true := by
  simp [rch]
theorem rch_up {E : Nat → Nat → Bool} {src : Nat → Bool} {n m p : Nat} (h : n ≤ m) (hr : rch E src n p = true) : rch E src m p = true := by
  induction h with
  | refl => exact hr
  | step _ ih => exact rch_S.mpr (Or.inl ih)
theorem rch_sub {E : Nat → Nat → Bool} {src : Nat → Bool} {X : Nat → Prop} (h0 : ∀ p, src p = true → X p) (hE : ∀ p q, q < 8 → E p q = true → X q → X p) : ∀ n p, rch E src n p = true → X p := by
  intro n
  induction n with
  | zero => intro p h; exact h0 p h
  | succ n ih =>
    intro p h
    rcases rch_S.mp h with h | ⟨q, h1, h2, h3⟩
    · exact ih p h
    · exact hE p q h1 h2 (ih q h3)
def cnt (P : Nat → Bool) : Nat → Nat
  | 0 => 0
  | n + 1 => cnt P n + (if P n = true then 1 else 0)
theorem cnt_le (P : Nat → Bool) (n : Nat) : cnt P n ≤ n := by
  induction n with
  | zero => exact Nat.le_refl 0
  | succ n ih => unfold cnt; split <;> omega
theorem cnt_mono {P Q : Nat → Bool} {n : Nat} (h : ∀ p, p < n → P p = true → Q p = true) : cnt P n ≤ cnt Q n := by
  induction n with
  | zero => exact Nat.le_refl 0
  | succ n ih =>
    have h1 := ih (fun p hp => h p (by omega))
    have h2 := h n (by omega)
    unfold cnt
    cases hp : P n <;> cases hq : Q n <;> simp [hp, hq] at h2 ⊢ <;> omega
theorem cnt_lt {P Q : Nat → Bool} {n p : Nat} (h : ∀ p, p < n → P p = true → Q p = true) (hp : p < n) (hQ : Q p = true) (hP : P p = false) : cnt P n < cnt Q n := by
  induction n with
  | zero => omega
  | succ n ih =>
    have h2 := h n (by omega)
    unfold cnt
    rcases Nat.lt_or_ge p n with hl | hl
    · have h1 := ih (fun p hp => h p (by omega)) hl
      cases hp : P n <;> cases hq : Q n <;> simp [hp, hq] at h2 ⊢ <;> omega
    · have e : p = n := by omega
      subst e
      have h1 := cnt_mono (n := p) (fun q hq => h q (by omega))
      simp [hP, hQ]; omega
theorem cnt_pos {P : Nat → Bool} {n p : Nat} (hp : p < n) (hP : P p = true) : 1 ≤ cnt P n := by
  have := cnt_lt (P := fun _ => false) (Q := P) (n := n) (p := p) (fun _ _ h => by simp at h) hp hP rfl
  omega
theorem rch_fix {E : Nat → Nat → Bool} {src : Nat → Bool} {n : Nat} (h : ∀ p, p < 8 → rch E src (n + 1) p = true → rch E src n p = true) : ∀ m p, p < 8 → rch E src (n + m) p = true → rch E src n p = true := by
  intro m
  induction m with
  | zero => intro p _ h; exact h
  | succ m ih =>
    intro p hp hr
    rcases rch_S.mp (show rch E src (n + m + 1) p = true from hr) with h1 | ⟨q, h1, h2, h3⟩
    · exact ih p hp h1
    · exact h p hp (rch_S.mpr (Or.inr ⟨q, h1, h2, ih q h1 h3⟩))
theorem rch_7 {E : Nat → Nat → Bool} {src : Nat → Bool} {n p : Nat} (hp : p < 8) (hr : rch E src n p = true) : rch E src 7 p = true := by
  by_cases hx : ∃ k, k ≤ 7 ∧ ∀ p, p < 8 → rch E src (k + 1) p = true → rch E src k p = true
  · obtain ⟨k, hk, hf⟩ := hx
    exact rch_up hk (rch_fix hf n p hp (rch_up (by omega) hr))
  · have key : ∀ k, k ≤ 7 → ∃ p, p < 8 ∧ rch E src (k + 1) p = true ∧ rch E src k p = false := by
      intro k hk
      apply Classical.byContradiction
      intro hno
      refine hx ⟨k, hk, fun p hp h1 => ?_⟩
      cases hz : rch E src k p with
      | true => rfl
      | false => exact absurd ⟨p, hp, h1, hz⟩ hno
    have step : ∀ k, k ≤ 7 → cnt (rch E src k) 8 < cnt (rch E src (k + 1)) 8 := by
      intro k hk
      obtain ⟨p, hp, h1, h2⟩ := key k hk
      exact cnt_lt (fun p _ h => rch_up (Nat.le_succ k) h) hp h1 h2
    have c0 : 1 ≤ cnt (rch E src 0) 8 := by
      obtain ⟨p, hp, h1, h2⟩ := key 0 (by omega)
      rcases rch_S.mp h1 with h | ⟨q, hq, _, h3⟩
      · rw [h] at h2; cases h2
      · exact cnt_pos hq h3
    have s0 : cnt (rch E src 0) 8 < cnt (rch E src 1) 8 := step 0 (by omega)
    have s1 : cnt (rch E src 1) 8 < cnt (rch E src 2) 8 := step 1 (by omega)
    have s2 : cnt (rch E src 2) 8 < cnt (rch E src 3) 8 := step 2 (by omega)
    have s3 : cnt (rch E src 3) 8 < cnt (rch E src 4) 8 := step 3 (by omega)
    have s4 : cnt (rch E src 4) 8 < cnt (rch E src 5) 8 := step 4 (by omega)
    have s5 : cnt (rch E src 5) 8 < cnt (rch E src 6) 8 := step 5 (by omega)
    have s6 : cnt (rch E src 6) 8 < cnt (rch E src 7) 8 := step 6 (by omega)
    have s7 : cnt (rch E src 7) 8 < cnt (rch E src 8) 8 := step 7 (by omega)
    have := cnt_le (rch E src 8) 8
    omega
/-- all that comes, at last -/
def cl (E : Nat → Nat → Bool) (src : Nat → Bool) (p : Nat) : Bool := rch E src 7 p
theorem cl_src {E : Nat → Nat → Bool} {src : Nat → Bool} {p : Nat} (h : src p = true) : cl E src p = true := rch_up (n := 0) (by omega) h
theorem cl_E {E : Nat → Nat → Bool} {src : Nat → Bool} {p q : Nat} (hp : p < 8) (hq : q < 8) (hE : E p q = true) (h : cl E src q = true) : cl E src p = true := rch_7 (n := 8) hp (rch_S.mpr (Or.inr ⟨q, hq, hE, h⟩))
theorem cl_sub {E : Nat → Nat → Bool} {src : Nat → Bool} {X : Nat → Prop} (h0 : ∀ p, src p = true → X p) (hE : ∀ p q, q < 8 → E p q = true → X q → X p) {p : Nat} (h : cl E src p = true) : X p := rch_sub h0 hE 7 p h
