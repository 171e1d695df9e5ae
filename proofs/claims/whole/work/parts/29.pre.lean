theorem jx_negn {α : Type} {c : Prop} [Decidable c] {a b : Option α} {r : α} (hc : c) (h : (if ¬ c then a else b) = some r) : b = some r := by
  rwa [if_neg (fun hn => hn hc)] at h
