/-! pure words: a loop by steps, a guard, an index in its row; how an answer of a pure run is taken apart -/
def jx_iter {σ ρ : Type} (step : σ → Option (σ ⊕ ρ)) : Nat → σ → Option ρ
  | 0, _ => none
  | n + 1, s => (step s).bind fun r => match r with
    | .inl s' => jx_iter step n s'
    | .inr x => some x
def jx_gd (b : Bool) : Option Unit := if b then some () else none
def jx_in (i : Int32) (n : Nat) : Bool := decide (¬ (i < 0 ∨ n ≤ i.toNatClampNeg))
theorem jx_bs {α β : Type} {o : Option α} {k : α → Option β} {r : β} (h : o.bind k = some r) : ∃ a, o = some a ∧ k a = some r := by
  cases o with
  | none => simp at h
  | some a => exact ⟨a, rfl, h⟩
theorem jx_gs {β : Type} {b : Bool} {k : Unit → Option β} {r : β} (h : (jx_gd b).bind k = some r) : b = true ∧ k () = some r := by
  cases b with
  | false => simp [jx_gd] at h
  | true => exact ⟨rfl, h⟩
theorem jx_ip {i : Int32} {n : Nat} (h : jx_in i n = true) : vp_in i n := by
  unfold jx_in at h
  have h2 : ¬ (i < 0 ∨ n ≤ i.toNatClampNeg) := of_decide_eq_true h
  exact h2
theorem jx_pos {α : Type} {c : Prop} [Decidable c] {a b : Option α} {r : α} (hc : c) (h : (if c then a else b) = some r) : a = some r := by
  rwa [if_pos hc] at h
theorem jx_neg {α : Type} {c : Prop} [Decidable c] {a b : Option α} {r : α} (hc : ¬ c) (h : (if c then a else b) = some r) : b = some r := by
  rwa [if_neg hc] at h
theorem jx_eq {α : Type} {a b : α} (h : some a = some b) : a = b := Option.some.inj h
theorem jx_S {A : Nat → Prop} {H0 H : Heap} {locs : List Loc} (h : va_S A H0 H locs) : ∀ l ∈ locs, A l.base := h.2.2
