/-! ===== the start: the small ones ===== -/
theorem X9_made {g : ZS} {q : Nat} (hq : zsz g = q + 1) (hs : zsh g q = some (9, 0)) (h0 : ∀ j, zgi g q j = 0 ∧ zgl g q j = 0) : zW (f_X9_init q g) (fun g' => zsz g' = q + 2 ∧ zMk q g g' ∧ XRl g' q (q + 1)) := by
  unfold f_X9_init
  refine w_put (by omega) hs (fun g1 a1 a2 a3 a4 a5 => ?_)
  rw [hq] at a1 a2 a3 a4 a5
  rw [zW_some]
  refine ⟨by omega, ⟨fun a ha => ⟨by rw [a2, if_neg (by omega)], fun j => ⟨by rw [a3, if_neg (by omega)], by rw [a4, if_neg (by omega)], by rw [a5, if_neg (by omega), if_neg (by omega)]⟩⟩, fun a j x y => ?_⟩, by rw [a2, if_neg (by omega)]; exact hs, by rw [a2, if_pos rfl], by rw [a5, if_pos ⟨rfl, rfl⟩]⟩
  rw [a3, a4]
  by_cases e : a = q + 1
  · rw [if_pos e, if_pos e]; exact ⟨rfl, rfl⟩
  · rw [if_neg e, if_neg e, show a = q by omega]; exact h0 j
theorem X8_made {g : ZS} {q : Nat} (hq : zsz g = q + 1) (hs : zsh g q = some (8, 0)) (h0 : ∀ j, zgi g q j = 0 ∧ zgl g q j = 0) : zW (f_X8_init q g) (fun g' => zsz g' = q + 2 ∧ zMk q g g' ∧ zsh g' q = some (8, 0) ∧ zsh g' (q + 1) = some (23, 80) ∧ zgr g' q 0 = some (q + 1)) := by
  unfold f_X8_init
  refine w_put (by omega) hs (fun g1 a1 a2 a3 a4 a5 => ?_)
  rw [hq] at a1 a2 a3 a4 a5
  rw [zW_some]
  refine ⟨by omega, ⟨fun a ha => ⟨by rw [a2, if_neg (by omega)], fun j => ⟨by rw [a3, if_neg (by omega)], by rw [a4, if_neg (by omega)], by rw [a5, if_neg (by omega), if_neg (by omega)]⟩⟩, fun a j x y => ?_⟩, by rw [a2, if_neg (by omega)]; exact hs, by rw [a2, if_pos rfl], by rw [a5, if_pos ⟨rfl, rfl⟩]⟩
  rw [a3, a4]
  by_cases e : a = q + 1
  · rw [if_pos e, if_pos e]; exact ⟨rfl, rfl⟩
  · rw [if_neg e, if_neg e, show a = q by omega]; exact h0 j
