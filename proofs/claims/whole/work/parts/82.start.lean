/-! ===== the start: what is made ===== -/
/-- the cells below q are as they were; those from q on, up to the size, hold no number yet -/
def zMk (q : Nat) (g g' : ZS) : Prop := (∀ a, a < q → zsh g' a = zsh g a ∧ ∀ j, zgi g' a j = zgi g a j ∧ zgl g' a j = zgl g a j ∧ zgr g' a j = zgr g a j) ∧ ∀ a j, q ≤ a → a < zsz g' → zgi g' a j = 0 ∧ zgl g' a j = 0
theorem zMk.trans {q : Nat} {g g1 g2 : ZS} (h : zMk q g g1) (h' : zMk q g1 g2) : zMk q g g2 := ⟨fun a ha => ⟨(h'.1 a ha).1.trans (h.1 a ha).1, fun j => ⟨((h'.1 a ha).2 j).1.trans ((h.1 a ha).2 j).1, ((h'.1 a ha).2 j).2.1.trans ((h.1 a ha).2 j).2.1, ((h'.1 a ha).2 j).2.2.trans ((h.1 a ha).2 j).2.2⟩⟩, h'.2⟩
theorem w_new {β : Type} {Q : β → Prop} {g : ZS} {k : Nat × Nat} {K : Nat × ZS → Option β} (h : ∀ g', zsz g' = zsz g + 1 → (∀ a, zsh g' a = if a = zsz g then some k else zsh g a) → (∀ a j, zgi g' a j = if a = zsz g then 0 else zgi g a j) → (∀ a j, zgl g' a j = if a = zsz g then 0 else zgl g a j) → (∀ a j, zgr g' a j = if a = zsz g then none else zgr g a j) → zW (K (zsz g, g')) Q) : zW ((zalloc g k).bind K) Q := by
  unfold zalloc
  rw [Option.bind_some]
  exact h (znew g k) rfl (fun a => rfl) (fun a j => rfl) (fun a j => rfl) (fun a j => rfl)
