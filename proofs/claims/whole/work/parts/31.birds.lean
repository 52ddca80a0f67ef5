/-! ===== birds and scenes of the class ===== -/
abbrev ZB : Type := Nat × Nat × Nat × Nat × (Nat → Nat) × (Nat → Nat) × (Nat → Nat) × (Nat → Nat)
abbrev bh (b : ZB) : Nat := b.1
abbrev bc (b : ZB) : Nat := b.2.1
abbrev bn (b : ZB) : Nat := b.2.2.1
abbrev bo (b : ZB) : Nat := b.2.2.2.1
abbrev bO (b : ZB) : Nat → Nat := b.2.2.2.2.1
abbrev bF (b : ZB) : Nat → Nat := b.2.2.2.2.2.1
abbrev bL (b : ZB) : Nat → Nat := b.2.2.2.2.2.2.1
abbrev bT (b : ZB) : Nat → Nat := b.2.2.2.2.2.2.2
def uN (f : Nat → Nat) (k v : Nat) : Nat → Nat := fun i => if i = k then v else f i
theorem uN_s {f : Nat → Nat} {k v : Nat} : uN f k v k = v := if_pos rfl
theorem uN_n {f : Nat → Nat} {k v i : Nat} (h : i ≠ k) : uN f k v i = f i := if_neg h
def BI (b : ZB) : Prop := bh b < 4 ∧ bc b ≤ 1 ∧ bn b ≤ 9999 ∧ bo b ≤ 8 ∧ ∀ w, w < 8 → bO b w ≤ bn b ∧ bF b w ≤ 9999 ∧ bL b w ≤ 9999 ∧ bT b w ≤ 99
def CB (g : ZS) (q : Nat) (b : ZB) : Prop := zgi g q 4 = nI (bh b) ∧ zgi g q 6 = nI (bc b) ∧ zgi g q 7 = nI (bn b) ∧ zgi g q 8 = nI (bo b) ∧ ∀ w, w < 8 → zgi g (q + 1) w = nI (bO b w) ∧ zgi g (q + 2) w = nI (bF b w) ∧ zgi g (q + 3) w = nI (bL b w) ∧ zgi g (q + 4) w = nI (bT b w)
def BL (g : ZS) (q : Nat) : Prop := zsh g q = some (0, 0) ∧ zsh g (q + 1) = some (20, 8) ∧ zsh g (q + 2) = some (20, 8) ∧ zsh g (q + 3) = some (20, 8) ∧ zsh g (q + 4) = some (20, 8) ∧ zgr g q 0 = some (q + 1) ∧ zgr g q 1 = some (q + 2) ∧ zgr g q 2 = some (q + 3) ∧ zgr g q 3 = some (q + 4)
/-- the places of a bird -/
def Sb (q : Nat) : Nat → Nat → Prop := fun a _ => q ≤ a ∧ a < q + 5
theorem BL.keep {g g' : ZS} {q : Nat} (h : BL g q) (hs : zsh g' = zsh g) (hr : ∀ j, j < 4 → zgr g' q j = zgr g q j) : BL g' q := by
  obtain ⟨h1, h2, h3, h4, h5, h6, h7, h8, h9⟩ := h
  exact ⟨by rw [hs]; exact h1, by rw [hs]; exact h2, by rw [hs]; exact h3, by rw [hs]; exact h4, by rw [hs]; exact h5, by rw [hr 0 (by decide)]; exact h6, by rw [hr 1 (by decide)]; exact h7, by rw [hr 2 (by decide)]; exact h8, by rw [hr 3 (by decide)]; exact h9⟩
theorem CB.keep {g g' : ZS} {q : Nat} {b : ZB} (h : CB g q b) (hi : ∀ a j, q ≤ a → a < q + 5 → zgi g' a j = zgi g a j) : CB g' q b := by
  obtain ⟨h1, h2, h3, h4, h5⟩ := h
  refine ⟨by rw [hi q _ (by omega) (by omega)]; exact h1, by rw [hi q _ (by omega) (by omega)]; exact h2, by rw [hi q _ (by omega) (by omega)]; exact h3, by rw [hi q _ (by omega) (by omega)]; exact h4, fun w hw => ?_⟩
  obtain ⟨k1, k2, k3, k4⟩ := h5 w hw
  exact ⟨by rw [hi (q + 1) _ (by omega) (by omega)]; exact k1, by rw [hi (q + 2) _ (by omega) (by omega)]; exact k2, by rw [hi (q + 3) _ (by omega) (by omega)]; exact k3, by rw [hi (q + 4) _ (by omega) (by omega)]; exact k4⟩
def pTake (b : ZB) (w : Nat) : ZB := if 9999 ≤ bn b then b else (bh b, bc b, bn b + 1, bo b, uN (bO b) w (bO b w + 1), if bO b w = 0 then uN (bF b) w (bn b) else bF b, uN (bL b) w (bn b), bT b)
theorem pTake_BI {b : ZB} {w : Nat} (h : BI b) : BI (pTake b w) := by
  unfold pTake
  split
  · exact h
  · rename_i h9
    obtain ⟨h1, h2, h3, h4, h5⟩ := h
    refine ⟨h1, h2, by show bn b + 1 ≤ 9999; omega, h4, fun v hv => ?_⟩
    obtain ⟨k1, k2, k3, k4⟩ := h5 v hv
    refine ⟨?_, ?_, ?_, k4⟩
    · show uN (bO b) w (bO b w + 1) v ≤ bn b + 1
      unfold uN
      split
      · rename_i e; subst e; omega
      · omega
    · show (if bO b w = 0 then uN (bF b) w (bn b) else bF b) v ≤ 9999
      split
      · unfold uN; split <;> omega
      · exact k2
    · show uN (bL b) w (bn b) v ≤ 9999
      unfold uN; split <;> omega
theorem s_take {g : ZS} {q w : Nat} {b : ZB} (hB : BL g q) (hb : CB g q b) (hI : BI b) (hw : w < 8) : zW (f_X0_take q (nI w) g) (fun g' => zE (Sb q) g g' ∧ CB g' q (pTake b w)) := by
  obtain ⟨h1, h2, h3, h4, h5, h6, h7, h8, h9⟩ := hB
  obtain ⟨c1, c2, c3, c4, c5⟩ := hb
  obtain ⟨i1, i2, i3, i4, i5⟩ := hI
  have hw8 := c5 w hw
  have s1 : ∀ a j, q ≤ a → a < q + 5 → Sb q a j := fun a j x y => ⟨x, y⟩
  unfold f_X0_take
  rw [p_rdI h1, Option.bind_some, c3]
  by_cases hn : bn b < 9999
  · rw [if_pos (show nI (bn b) < (9999 : Int32) from nI_lt hn (by decide)), p_rdR h1, h6, Option.bind_some, p_ald h2 hw (by decide), Option.bind_some, hw8.1]
    have hp : pTake b w = (bh b, bc b, bn b + 1, bo b, uN (bO b) w (bO b w + 1), if bO b w = 0 then uN (bF b) w (bn b) else bF b, uN (bL b) w (bn b), bT b) := by
      unfold pTake; rw [if_neg (by omega)]
    have key : ∀ g1 : ZS, zE (Sb q) g g1 → zsh g1 = zsh g → zgr g1 = zgr g → zgi g1 q = zgi g q → zgi g1 (q + 1) = zgi g (q + 1) → zgi g1 (q + 3) = zgi g (q + 3) → zgi g1 (q + 4) = zgi g (q + 4) → (∀ v, v < 8 → zgi g1 (q + 2) v = nI ((if bO b w = 0 then uN (bF b) w (bn b) else bF b) v)) → zW (f_X0_take_30 q (nI w) g1) (fun g' => zE (Sb q) g g' ∧ CB g' q (pTake b w)) := by
      intro g1 e0 e1 e2 e3 e4 e5 e6 e7
      unfold f_X0_take_30
      rw [p_rdR (by rw [e1]; exact h1), e2, h8, Option.bind_some, p_rdI (by rw [e1]; exact h1), Option.bind_some, p_iast (by rw [e1]; exact h4) hw (by decide), Option.bind_some]
      rw [p_rdR (by rw [sh_sI, e1]; exact h1), gr_sI, e2, h6, Option.bind_some, p_ald (by rw [sh_sI, e1]; exact h2) hw (by decide), Option.bind_some, p_iast (by rw [sh_sI, e1]; exact h2) hw (by decide), Option.bind_some]
      rw [p_rdI (by rw [sh_sI, sh_sI, e1]; exact h1), Option.bind_some, p_wrI (by rw [sh_sI, sh_sI, e1]; exact h1), Option.bind_some, zW_some]
      refine ⟨e0.trans ((zE.setI (s1 _ _ (by omega) (by omega))).trans ((zE.setI (s1 _ _ (by omega) (by omega))).trans (zE.setI (s1 _ _ (by omega) (by omega))))), ?_⟩
      rw [hp]
      have f1 : zgi g1 q 7 = nI (bn b) := by rw [e3]; exact c3
      have f2 : zgi g1 (q + 1) w = nI (bO b w) := by rw [e4]; exact hw8.1
      refine ⟨?_, ?_, ?_, ?_, fun v hv => ⟨?_, ?_, ?_, ?_⟩⟩
      · simp [gi_sI, e3, c1]
      · simp [gi_sI, e3, c2]
      · simp [gi_sI, f1, nI_1]
      · simp [gi_sI, e3, c4]
      · show _ = nI (uN (bO b) w (bO b w + 1) v)
        by_cases e : v = w
        · subst e; simp [gi_sI, f2, nI_1, uN]
        · simp [gi_sI, e, uN, e4, (c5 v hv).1]
      · simp [gi_sI]; exact e7 v hv
      · show _ = nI (uN (bL b) w (bn b) v)
        by_cases e : v = w
        · subst e; simp [gi_sI, f1, uN]
        · simp [gi_sI, e, uN, e5, (c5 v hv).2.2.1]
      · simp [gi_sI, e6, (c5 v hv).2.2.2]
    by_cases hz : bO b w = 0
    · rw [if_pos (by rw [hz]; rfl)]
      simp only [p_rdR h1, h7, Option.bind_some, p_iast h3 hw (by decide)]
      refine key _ (zE.setI (s1 _ _ (by omega) (by omega))) rfl rfl ?_ ?_ ?_ ?_ (fun v hv => ?_)
      · funext j; simp [gi_sI]
      · funext j; simp [gi_sI]
      · funext j; simp [gi_sI]
      · funext j; simp [gi_sI]
      · rw [if_pos hz]
        by_cases e : v = w
        · subst e; simp [gi_sI, c3, uN]
        · simp [gi_sI, e, uN, (c5 v hv).2.1]
    · rw [if_neg (by intro e; exact hz ((nI_eq (by have := i5 w hw; omega) (by decide)).mp e))]
      refine key g zE.rfl rfl rfl rfl rfl rfl rfl (fun v hv => ?_)
      rw [if_neg hz]; exact (c5 v hv).2.1
  · rw [if_neg (show ¬ nI (bn b) < (9999 : Int32) from nI_nlt (a := bn b) (b := 9999) (by omega) (by omega)), zW_some]
    have hp : pTake b w = b := by unfold pTake; rw [if_pos (by omega)]
    rw [hp]
    exact ⟨zE.rfl, c1, c2, c3, c4, c5⟩
