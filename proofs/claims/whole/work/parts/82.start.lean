/-! ===== the start: what is made ===== -/
/-- the cells below q are as they were; those from q on, up to the size, hold no number yet -/
def zMk (q : Nat) (g g' : ZS) : Prop := (∀ a, a < q → zsh g' a = zsh g a ∧ ∀ j, zgi g' a j = zgi g a j ∧ zgl g' a j = zgl g a j ∧ zgr g' a j = zgr g a j) ∧ ∀ a j, q ≤ a → a < zsz g' → zgi g' a j = 0 ∧ zgl g' a j = 0
theorem zMk.trans {q : Nat} {g g1 g2 : ZS} (h : zMk q g g1) (h' : zMk q g1 g2) : zMk q g g2 := ⟨fun a ha => ⟨(h'.1 a ha).1.trans (h.1 a ha).1, fun j => ⟨((h'.1 a ha).2 j).1.trans ((h.1 a ha).2 j).1, ((h'.1 a ha).2 j).2.1.trans ((h.1 a ha).2 j).2.1, ((h'.1 a ha).2 j).2.2.trans ((h.1 a ha).2 j).2.2⟩⟩, h'.2⟩
theorem w_new {β : Type} {Q : β → Prop} {g : ZS} {k : Nat × Nat} {K : Nat × ZS → Option β} (h : ∀ g', zsz g' = zsz g + 1 → (∀ a, zsh g' a = if a = zsz g then some k else zsh g a) → (∀ a j, zgi g' a j = if a = zsz g then 0 else zgi g a j) → (∀ a j, zgl g' a j = if a = zsz g then 0 else zgl g a j) → (∀ a j, zgr g' a j = if a = zsz g then none else zgr g a j) → zW (K (zsz g, g')) Q) : zW ((zalloc g k).bind K) Q := by
  unfold zalloc
  rw [Option.bind_some]
  exact h (znew g k) rfl (fun a => rfl) (fun a j => rfl) (fun a j => rfl) (fun a j => rfl)
/-- a cell is made and a reference of q is set to it -/
theorem w_put {β : Type} {Q : β → Prop} {g : ZS} {k : Nat × Nat} {q ci j : Nat} {K : ZS → Option β} (hq : q < zsz g) (hs : zsh g q = some (ci, 0)) (h : ∀ g', zsz g' = zsz g + 1 → (∀ a, zsh g' a = if a = zsz g then some k else zsh g a) → (∀ a i, zgi g' a i = if a = zsz g then 0 else zgi g a i) → (∀ a i, zgl g' a i = if a = zsz g then 0 else zgl g a i) → (∀ a i, zgr g' a i = if a = q ∧ i = j then some (zsz g) else if a = zsz g then none else zgr g a i) → zW (K g') Q) : zW ((zalloc g k).bind fun p => (zwrR p.2 q ci j p.1).bind K) Q := by
  refine w_new (fun g1 e1 e2 e3 e4 e5 => ?_)
  dsimp only
  rw [p_wrR (by rw [e2, if_neg (by omega)]; exact hs), Option.bind_some]
  exact h _ e1 e2 e3 e4 (fun a i => by rw [gr_sR, e5])
theorem X0_made {g : ZS} {q : Nat} (hq : zsz g = q + 1) (hs : zsh g q = some (0, 0)) (h0 : ∀ j, zgi g q j = 0 ∧ zgl g q j = 0) : zW (f_X0_init q g) (fun g' => zsz g' = q + 5 ∧ zMk q g g' ∧ BL (zh g') q) := by
  unfold f_X0_init
  refine w_put (by omega) hs (fun g1 a1 a2 a3 a4 a5 => ?_)
  refine w_put (by omega) (by rw [a2, if_neg (by omega)]; exact hs) (fun g2 b1 b2 b3 b4 b5 => ?_)
  refine w_put (by omega) (by rw [b2, if_neg (by omega), a2, if_neg (by omega)]; exact hs) (fun g3 c1 c2 c3 c4 c5 => ?_)
  refine w_put (by omega) (by rw [c2, if_neg (by omega), b2, if_neg (by omega), a2, if_neg (by omega)]; exact hs) (fun g4 d1 d2 d3 d4 d5 => ?_)
  rw [zW_some]
  rw [c1, b1, a1, hq] at d1 d2 d3 d4 d5
  rw [b1, a1, hq] at c2 c3 c4 c5
  rw [a1, hq] at b2 b3 b4 b5
  rw [hq] at a2 a3 a4 a5
  have S : ∀ a, zsh g4 a = if a = q + 1 + 1 + 1 + 1 then some (20, 8) else if a = q + 1 + 1 + 1 then some (20, 8) else if a = q + 1 + 1 then some (20, 8) else if a = q + 1 then some (20, 8) else zsh g a := fun a => by rw [d2, c2, b2, a2]
  have I : ∀ a i, zgi g4 a i = if a = q + 1 + 1 + 1 + 1 then 0 else if a = q + 1 + 1 + 1 then 0 else if a = q + 1 + 1 then 0 else if a = q + 1 then 0 else zgi g a i := fun a i => by rw [d3, c3, b3, a3]
  have Lg : ∀ a i, zgl g4 a i = if a = q + 1 + 1 + 1 + 1 then 0 else if a = q + 1 + 1 + 1 then 0 else if a = q + 1 + 1 then 0 else if a = q + 1 then 0 else zgl g a i := fun a i => by rw [d4, c4, b4, a4]
  refine ⟨by omega, ⟨fun a ha => ⟨by rw [S, if_neg (by omega), if_neg (by omega), if_neg (by omega), if_neg (by omega)], fun j => ⟨by rw [I, if_neg (by omega), if_neg (by omega), if_neg (by omega), if_neg (by omega)], by rw [Lg, if_neg (by omega), if_neg (by omega), if_neg (by omega), if_neg (by omega)], by rw [d5, if_neg (by omega), if_neg (by omega), c5, if_neg (by omega), if_neg (by omega), b5, if_neg (by omega), if_neg (by omega), a5, if_neg (by omega), if_neg (by omega)]⟩⟩, fun a j ha hb => ?_⟩, ?_⟩
  · by_cases e : a = q
    · subst e
      exact ⟨by rw [I, if_neg (by omega), if_neg (by omega), if_neg (by omega), if_neg (by omega)]; exact (h0 j).1, by rw [Lg, if_neg (by omega), if_neg (by omega), if_neg (by omega), if_neg (by omega)]; exact (h0 j).2⟩
    · have hc : a = q + 1 ∨ a = q + 1 + 1 ∨ a = q + 1 + 1 + 1 ∨ a = q + 1 + 1 + 1 + 1 := by omega
      rw [I, Lg]
      rcases hc with rfl | rfl | rfl | rfl
      · rw [if_neg (by omega), if_neg (by omega), if_neg (by omega), if_pos rfl, if_neg (by omega), if_neg (by omega), if_neg (by omega), if_pos rfl]; exact ⟨rfl, rfl⟩
      · rw [if_neg (by omega), if_neg (by omega), if_pos rfl, if_neg (by omega), if_neg (by omega), if_pos rfl]; exact ⟨rfl, rfl⟩
      · rw [if_neg (by omega), if_pos rfl, if_neg (by omega), if_pos rfl]; exact ⟨rfl, rfl⟩
      · rw [if_pos rfl, if_pos rfl]; exact ⟨rfl, rfl⟩
  · refine ⟨?_, ?_, ?_, ?_, ?_, ?_, ?_, ?_, ?_⟩
    · show zsh g4 q = _; rw [S, if_neg (by omega), if_neg (by omega), if_neg (by omega), if_neg (by omega)]; exact hs
    · show zsh g4 (q + 1) = _; rw [S, if_neg (by omega), if_neg (by omega), if_neg (by omega), if_pos (by omega)]
    · show zsh g4 (q + 2) = _; rw [S, if_neg (by omega), if_neg (by omega), if_pos (by omega)]
    · show zsh g4 (q + 3) = _; rw [S, if_neg (by omega), if_pos (by omega)]
    · show zsh g4 (q + 4) = _; rw [S, if_pos (by omega)]
    · show zgr g4 q 0 = _; rw [d5, if_neg (by omega), if_neg (by omega), c5, if_neg (by omega), if_neg (by omega), b5, if_neg (by omega), if_neg (by omega), a5, if_pos (by omega)]
    · show zgr g4 q 1 = _; rw [d5, if_neg (by omega), if_neg (by omega), c5, if_neg (by omega), if_neg (by omega), b5, if_pos (by omega)]
    · show zgr g4 q 2 = _; rw [d5, if_neg (by omega), if_neg (by omega), c5, if_pos (by omega)]
    · show zgr g4 q 3 = _; rw [d5, if_pos (by omega)]
/-- a bird is made and put into its place of a scene -/
theorem w_bird {β : Type} {Q : β → Prop} {g : ZS} {s i : Nat} {K : ZS → Option β} (hi : i < 6) (hz : zsz g = s + 2 + 5 * i) (h0 : zsh g s = some (6, 0)) (h1 : zsh g (s + 1) = some (25, 6)) (hr : zgr g s 0 = some (s + 1)) (h : ∀ g', zsz g' = s + 2 + 5 * (i + 1) → (∀ a, a < s + 2 + 5 * i → zsh g' a = zsh g a ∧ ∀ j, zgi g' a j = zgi g a j ∧ zgl g' a j = zgl g a j ∧ (¬ (a = s + 1 ∧ j = i) → zgr g' a j = zgr g a j)) → zgr g' (s + 1) i = some (s + 2 + 5 * i) → BL (zh g') (s + 2 + 5 * i) → (∀ a j, s + 2 + 5 * i ≤ a → a < zsz g' → zgi g' a j = 0 ∧ zgl g' a j = 0) → zW (K g') Q) : zW ((zrdR g s 6 0).bind fun v => (zalloc g (0, 0)).bind fun p => (f_X0_init p.1 p.2).bind fun g5 => (zaast 25 g5 v (nI i) p.1).bind K) Q := by
  refine w_rdR h0 hr (w_new (fun g1 a1 a2 a3 a4 a5 => ?_))
  dsimp only
  rw [hz] at a1 a2 a3 a4 a5 ⊢
  refine (X0_made (q := s + 2 + 5 * i) a1 (by rw [a2, if_pos rfl]) (fun j => ⟨by rw [a3, if_pos rfl], by rw [a4, if_pos rfl]⟩)).bind (fun g2 h2 => ?_)
  obtain ⟨z2, m2, b2⟩ := h2
  have hsh : ∀ a, a < s + 2 + 5 * i → zsh g2 a = zsh g a := fun a ha => by rw [(m2.1 a ha).1, a2, if_neg (by omega)]
  rw [p_aast (n := 6) (by rw [hsh _ (by omega)]; exact h1) hi (by decide) b2.f.1, Option.bind_some]
  refine h _ z2 (fun a ha => ⟨hsh a ha, fun j => ⟨by rw [gi_sR, ((m2.1 a ha).2 j).1, a3, if_neg (by omega)], by rw [gl_sR, ((m2.1 a ha).2 j).2.1, a4, if_neg (by omega)], fun hn => by rw [gr_sR, if_neg hn, ((m2.1 a ha).2 j).2.2, a5, if_neg (by omega)]⟩⟩) (by rw [gr_sR, if_pos ⟨rfl, rfl⟩]) (b2.inn (fun a _ _ => rfl) (fun a j x y => by show zgr (zsetR g2 (s + 1) i (some (s + 2 + 5 * i))) a j = zgr g2 a j; rw [gr_sR, if_neg (by omega)])) (fun a j x y => m2.2 a j x y)
theorem X6_made {g : ZS} {s : Nat} (hz : zsz g = s + 1) (hs : zsh g s = some (6, 0)) (h0 : ∀ j, zgi g s j = 0 ∧ zgl g s j = 0) : zW (f_X6_init s g) (fun g' => zsz g' = s + 32 ∧ zMk s g g' ∧ SL (zh g') s) := by
  unfold f_X6_init
  refine w_put (by omega) hs (fun g1 a1 a2 a3 a4 a5 => ?_)
  rw [hz] at a1 a2 a3 a4 a5
  -- what holds before the i-th bird is made
  obtain ⟨I, hI⟩ : ∃ I : Nat → ZS → Prop, I = fun i g' => zsz g' = s + 2 + 5 * i ∧ zsh g' s = some (6, 0) ∧ zsh g' (s + 1) = some (25, 6) ∧ zgr g' s 0 = some (s + 1) ∧ (∀ p, p < i → zgr g' (s + 1) p = some (s + 2 + 5 * p) ∧ BL (zh g') (s + 2 + 5 * p)) ∧ zMk s g g' := ⟨_, rfl⟩
  have step : ∀ {β : Type} {Q : β → Prop} {K : ZS → Option β} (i : Nat) (g : ZS), i < 6 → I i g → (∀ g', I (i + 1) g' → zW (K g') Q) → zW ((zrdR g s 6 0).bind fun v => (zalloc g (0, 0)).bind fun p => (f_X0_init p.1 p.2).bind fun g5 => (zaast 25 g5 v (nI i) p.1).bind K) Q := by
    intro β Q K i g' hi h hk
    rw [hI] at h
    obtain ⟨c1, c2, c3, c4, c5, c6⟩ := h
    refine w_bird hi c1 c2 c3 c4 (fun g2 d1 d2 d3 d4 d5 => hk g2 ?_)
    rw [hI]
    refine ⟨d1, (d2 s (by omega)).1.trans c2, (d2 (s + 1) (by omega)).1.trans c3, (((d2 s (by omega)).2 0).2.2 (by omega)).trans c4, fun p hp => ?_, ?_, ?_⟩
    · by_cases e : p = i
      · subst e; exact ⟨d3, d4⟩
      · obtain ⟨y1, y2⟩ := c5 p (by omega)
        exact ⟨(((d2 (s + 1) (by omega)).2 p).2.2 (by omega)).trans y1, y2.inn (fun a x y => (d2 a (by omega)).1) (fun a j x y => ((d2 a (by omega)).2 j).2.2 (by omega))⟩
    · exact fun a ha => ⟨(d2 a (by omega)).1.trans (c6.1 a ha).1, fun j => ⟨((d2 a (by omega)).2 j).1.trans ((c6.1 a ha).2 j).1, ((d2 a (by omega)).2 j).2.1.trans ((c6.1 a ha).2 j).2.1, (((d2 a (by omega)).2 j).2.2 (by omega)).trans ((c6.1 a ha).2 j).2.2⟩⟩
    · intro a j x y
      by_cases e : a < s + 2 + 5 * i
      · obtain ⟨z1, z2⟩ := c6.2 a j x (by omega)
        exact ⟨((d2 a e).2 j).1.trans z1, ((d2 a e).2 j).2.1.trans z2⟩
      · exact d5 a j (by omega) y
  have i0 : I 0 g1 := by
    rw [hI]
    refine ⟨by omega, by rw [a2, if_neg (by omega)]; exact hs, by rw [a2, if_pos rfl], by rw [a5, if_pos ⟨rfl, rfl⟩], fun p hp => by omega, fun a ha => ⟨by rw [a2, if_neg (by omega)], fun j => ⟨by rw [a3, if_neg (by omega)], by rw [a4, if_neg (by omega)], by rw [a5, if_neg (by omega), if_neg (by omega)]⟩⟩, fun a j x y => ?_⟩
    rw [a3, a4]
    by_cases e : a = s + 1
    · rw [if_pos e, if_pos e]; exact ⟨rfl, rfl⟩
    · rw [if_neg e, if_neg e, show a = s by omega]; exact h0 j
  refine step 0 g1 (by omega) i0 (fun g2 i2 => step 1 g2 (by omega) i2 (fun g3 i3 => step 2 g3 (by omega) i3 (fun g4 i4 => step 3 g4 (by omega) i4 (fun g5 i5 => step 4 g5 (by omega) i5 (fun g6 i6 => step 5 g6 (by omega) i6 (fun g7 i7 => ?_))))))
  rw [zW_some]
  rw [hI] at i7
  obtain ⟨c1, c2, c3, c4, c5, c6⟩ := i7
  exact ⟨by omega, c6, c2, c3, c4, c5⟩
