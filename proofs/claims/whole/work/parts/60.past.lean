/-! ===== what can be undone: the class ===== -/
theorem BL.move {h h' : ZH} {q : Nat} (hb : BL h q) (e : ∀ a, h'.1 a = h.1 a) (f : ∀ a j, q ≤ a → a < q + 5 → h'.2 a j = h.2 a j) : BL h' q := by
  obtain ⟨a1, a2, a3, a4, a5, a6, a7, a8, a9⟩ := hb
  exact ⟨(e _).trans a1, (e _).trans a2, (e _).trans a3, (e _).trans a4, (e _).trans a5, (f _ _ (by omega) (by omega)).trans a6, (f _ _ (by omega) (by omega)).trans a7, (f _ _ (by omega) (by omega)).trans a8, (f _ _ (by omega) (by omega)).trans a9⟩
theorem SL.move {h h' : ZH} {s : Nat} (hb : SL h s) (e : ∀ a, h'.1 a = h.1 a) (f : ∀ a j, s ≤ a → a < s + 32 → h'.2 a j = h.2 a j) : SL h' s := by
  obtain ⟨a1, a2, a3, a4⟩ := hb
  exact ⟨(e _).trans a1, (e _).trans a2, (f _ _ (by omega) (by omega)).trans a3, fun p hp => ⟨(f _ _ (by omega) (by omega)).trans (a4 p hp).1, (a4 p hp).2.move e (fun a j x y => f a j (by omega) (by omega))⟩⟩
theorem TL.move {h h' : ZH} {T : Nat} (hb : TL h T) (e : ∀ a, h'.1 a = h.1 a) (f : ∀ a j, T ≤ a → a < T + 13 → h'.2 a j = h.2 a j) : TL h' T := by
  obtain ⟨a1, a2, a3, a4, a5, a6, a7, a8⟩ := hb
  exact ⟨(e _).trans a1, (e _).trans a2, (e _).trans a3, (e _).trans a4, (f _ _ (by omega) (by omega)).trans a5, (f _ _ (by omega) (by omega)).trans a6, (f _ _ (by omega) (by omega)).trans a7, fun i hi => ⟨(f _ _ (by omega) (by omega)).trans (a8 i hi).1, (e _).trans (a8 i hi).2⟩⟩
theorem QL.move {h h' : ZH} {q : Nat} (hb : QL h q) (e : ∀ a, h'.1 a = h.1 a) (f : ∀ a j, q ≤ a → a < q + 5 → h'.2 a j = h.2 a j) : QL h' q := by
  obtain ⟨a1, a2, a3, a4, a5, a6, a7, a8, a9⟩ := hb
  exact ⟨(e _).trans a1, (e _).trans a2, (e _).trans a3, (e _).trans a4, (e _).trans a5, (f _ _ (by omega) (by omega)).trans a6, (f _ _ (by omega) (by omega)).trans a7, (f _ _ (by omega) (by omega)).trans a8, (f _ _ (by omega) (by omega)).trans a9⟩
theorem LC.move {x : Nat} {h0 h1 : ZH} (h : LC x h0) (e : ∀ a, h1.1 a = h0.1 a) (f : ∀ a j, a ≠ x + 88 → ¬ (a = x ∧ (j = 4 ∨ j = 5)) → h1.2 a j = h0.2 a j) : LC x h1 := ⟨(e _).trans h.1, (e _).trans h.2.1, (e _).trans h.2.2.1, (e _).trans h.2.2.2.1, (e _).trans h.2.2.2.2.1, (e _).trans h.2.2.2.2.2.1, (e _).trans h.2.2.2.2.2.2.1, (e _).trans h.2.2.2.2.2.2.2.1, (e _).trans h.2.2.2.2.2.2.2.2.1, (e _).trans h.2.2.2.2.2.2.2.2.2.1, (e _).trans h.2.2.2.2.2.2.2.2.2.2.1, (e _).trans h.2.2.2.2.2.2.2.2.2.2.2.1, (e _).trans h.2.2.2.2.2.2.2.2.2.2.2.2.1, (e _).trans h.2.2.2.2.2.2.2.2.2.2.2.2.2.1, (e _).trans h.2.2.2.2.2.2.2.2.2.2.2.2.2.2.1, (e _).trans h.2.2.2.2.2.2.2.2.2.2.2.2.2.2.2.1, (e _).trans h.2.2.2.2.2.2.2.2.2.2.2.2.2.2.2.2.1, (e _).trans h.2.2.2.2.2.2.2.2.2.2.2.2.2.2.2.2.2.1, (e _).trans h.2.2.2.2.2.2.2.2.2.2.2.2.2.2.2.2.2.2.1, (e _).trans h.2.2.2.2.2.2.2.2.2.2.2.2.2.2.2.2.2.2.2.1, (e _).trans h.2.2.2.2.2.2.2.2.2.2.2.2.2.2.2.2.2.2.2.2.1, (e _).trans h.2.2.2.2.2.2.2.2.2.2.2.2.2.2.2.2.2.2.2.2.2.1, (e _).trans h.2.2.2.2.2.2.2.2.2.2.2.2.2.2.2.2.2.2.2.2.2.2.1, (e _).trans h.2.2.2.2.2.2.2.2.2.2.2.2.2.2.2.2.2.2.2.2.2.2.2.1, (e _).trans h.2.2.2.2.2.2.2.2.2.2.2.2.2.2.2.2.2.2.2.2.2.2.2.2.1, (e _).trans h.2.2.2.2.2.2.2.2.2.2.2.2.2.2.2.2.2.2.2.2.2.2.2.2.2.1, (e _).trans h.2.2.2.2.2.2.2.2.2.2.2.2.2.2.2.2.2.2.2.2.2.2.2.2.2.2.1, (e _).trans h.2.2.2.2.2.2.2.2.2.2.2.2.2.2.2.2.2.2.2.2.2.2.2.2.2.2.2.1, (f _ _ (by omega) (by omega)).trans h.2.2.2.2.2.2.2.2.2.2.2.2.2.2.2.2.2.2.2.2.2.2.2.2.2.2.2.2.1, (f _ _ (by omega) (by omega)).trans h.2.2.2.2.2.2.2.2.2.2.2.2.2.2.2.2.2.2.2.2.2.2.2.2.2.2.2.2.2.1, (f _ _ (by omega) (by omega)).trans h.2.2.2.2.2.2.2.2.2.2.2.2.2.2.2.2.2.2.2.2.2.2.2.2.2.2.2.2.2.2.1, (f _ _ (by omega) (by omega)).trans h.2.2.2.2.2.2.2.2.2.2.2.2.2.2.2.2.2.2.2.2.2.2.2.2.2.2.2.2.2.2.2.1, (f _ _ (by omega) (by omega)).trans h.2.2.2.2.2.2.2.2.2.2.2.2.2.2.2.2.2.2.2.2.2.2.2.2.2.2.2.2.2.2.2.2.1, (f _ _ (by omega) (by omega)).trans h.2.2.2.2.2.2.2.2.2.2.2.2.2.2.2.2.2.2.2.2.2.2.2.2.2.2.2.2.2.2.2.2.2.1, (f _ _ (by omega) (by omega)).trans h.2.2.2.2.2.2.2.2.2.2.2.2.2.2.2.2.2.2.2.2.2.2.2.2.2.2.2.2.2.2.2.2.2.2.1, (f _ _ (by omega) (by omega)).trans h.2.2.2.2.2.2.2.2.2.2.2.2.2.2.2.2.2.2.2.2.2.2.2.2.2.2.2.2.2.2.2.2.2.2.2.1, (f _ _ (by omega) (by omega)).trans h.2.2.2.2.2.2.2.2.2.2.2.2.2.2.2.2.2.2.2.2.2.2.2.2.2.2.2.2.2.2.2.2.2.2.2.2.1, (f _ _ (by omega) (by omega)).trans h.2.2.2.2.2.2.2.2.2.2.2.2.2.2.2.2.2.2.2.2.2.2.2.2.2.2.2.2.2.2.2.2.2.2.2.2.2.1, (f _ _ (by omega) (by omega)).trans h.2.2.2.2.2.2.2.2.2.2.2.2.2.2.2.2.2.2.2.2.2.2.2.2.2.2.2.2.2.2.2.2.2.2.2.2.2.2.1, (f _ _ (by omega) (by omega)).trans h.2.2.2.2.2.2.2.2.2.2.2.2.2.2.2.2.2.2.2.2.2.2.2.2.2.2.2.2.2.2.2.2.2.2.2.2.2.2.2.1, (f _ _ (by omega) (by omega)).trans h.2.2.2.2.2.2.2.2.2.2.2.2.2.2.2.2.2.2.2.2.2.2.2.2.2.2.2.2.2.2.2.2.2.2.2.2.2.2.2.2.1, (f _ _ (by omega) (by omega)).trans h.2.2.2.2.2.2.2.2.2.2.2.2.2.2.2.2.2.2.2.2.2.2.2.2.2.2.2.2.2.2.2.2.2.2.2.2.2.2.2.2.2.1, (f _ _ (by omega) (by omega)).trans h.2.2.2.2.2.2.2.2.2.2.2.2.2.2.2.2.2.2.2.2.2.2.2.2.2.2.2.2.2.2.2.2.2.2.2.2.2.2.2.2.2.2.1, (f _ _ (by omega) (by omega)).trans h.2.2.2.2.2.2.2.2.2.2.2.2.2.2.2.2.2.2.2.2.2.2.2.2.2.2.2.2.2.2.2.2.2.2.2.2.2.2.2.2.2.2.2.1, (f _ _ (by omega) (by omega)).trans h.2.2.2.2.2.2.2.2.2.2.2.2.2.2.2.2.2.2.2.2.2.2.2.2.2.2.2.2.2.2.2.2.2.2.2.2.2.2.2.2.2.2.2.2.1, (f _ _ (by omega) (by omega)).trans h.2.2.2.2.2.2.2.2.2.2.2.2.2.2.2.2.2.2.2.2.2.2.2.2.2.2.2.2.2.2.2.2.2.2.2.2.2.2.2.2.2.2.2.2.2.1, (f _ _ (by omega) (by omega)).trans h.2.2.2.2.2.2.2.2.2.2.2.2.2.2.2.2.2.2.2.2.2.2.2.2.2.2.2.2.2.2.2.2.2.2.2.2.2.2.2.2.2.2.2.2.2.2.1, (f _ _ (by omega) (by omega)).trans h.2.2.2.2.2.2.2.2.2.2.2.2.2.2.2.2.2.2.2.2.2.2.2.2.2.2.2.2.2.2.2.2.2.2.2.2.2.2.2.2.2.2.2.2.2.2.2.1, (f _ _ (by omega) (by omega)).trans h.2.2.2.2.2.2.2.2.2.2.2.2.2.2.2.2.2.2.2.2.2.2.2.2.2.2.2.2.2.2.2.2.2.2.2.2.2.2.2.2.2.2.2.2.2.2.2.2.1, (f _ _ (by omega) (by omega)).trans h.2.2.2.2.2.2.2.2.2.2.2.2.2.2.2.2.2.2.2.2.2.2.2.2.2.2.2.2.2.2.2.2.2.2.2.2.2.2.2.2.2.2.2.2.2.2.2.2.2.1, (f _ _ (by omega) (by omega)).trans h.2.2.2.2.2.2.2.2.2.2.2.2.2.2.2.2.2.2.2.2.2.2.2.2.2.2.2.2.2.2.2.2.2.2.2.2.2.2.2.2.2.2.2.2.2.2.2.2.2.2.1, (f _ _ (by omega) (by omega)).trans h.2.2.2.2.2.2.2.2.2.2.2.2.2.2.2.2.2.2.2.2.2.2.2.2.2.2.2.2.2.2.2.2.2.2.2.2.2.2.2.2.2.2.2.2.2.2.2.2.2.2.2.1, (f _ _ (by omega) (by omega)).trans h.2.2.2.2.2.2.2.2.2.2.2.2.2.2.2.2.2.2.2.2.2.2.2.2.2.2.2.2.2.2.2.2.2.2.2.2.2.2.2.2.2.2.2.2.2.2.2.2.2.2.2.2.1, (f _ _ (by omega) (by omega)).trans h.2.2.2.2.2.2.2.2.2.2.2.2.2.2.2.2.2.2.2.2.2.2.2.2.2.2.2.2.2.2.2.2.2.2.2.2.2.2.2.2.2.2.2.2.2.2.2.2.2.2.2.2.2.1, (f _ _ (by omega) (by omega)).trans h.2.2.2.2.2.2.2.2.2.2.2.2.2.2.2.2.2.2.2.2.2.2.2.2.2.2.2.2.2.2.2.2.2.2.2.2.2.2.2.2.2.2.2.2.2.2.2.2.2.2.2.2.2.2.1, (f _ _ (by omega) (by omega)).trans h.2.2.2.2.2.2.2.2.2.2.2.2.2.2.2.2.2.2.2.2.2.2.2.2.2.2.2.2.2.2.2.2.2.2.2.2.2.2.2.2.2.2.2.2.2.2.2.2.2.2.2.2.2.2.2.1, (f _ _ (by omega) (by omega)).trans h.2.2.2.2.2.2.2.2.2.2.2.2.2.2.2.2.2.2.2.2.2.2.2.2.2.2.2.2.2.2.2.2.2.2.2.2.2.2.2.2.2.2.2.2.2.2.2.2.2.2.2.2.2.2.2.2.1, (f _ _ (by omega) (by omega)).trans h.2.2.2.2.2.2.2.2.2.2.2.2.2.2.2.2.2.2.2.2.2.2.2.2.2.2.2.2.2.2.2.2.2.2.2.2.2.2.2.2.2.2.2.2.2.2.2.2.2.2.2.2.2.2.2.2.2.1, (f _ _ (by omega) (by omega)).trans h.2.2.2.2.2.2.2.2.2.2.2.2.2.2.2.2.2.2.2.2.2.2.2.2.2.2.2.2.2.2.2.2.2.2.2.2.2.2.2.2.2.2.2.2.2.2.2.2.2.2.2.2.2.2.2.2.2.2.1, (f _ _ (by omega) (by omega)).trans h.2.2.2.2.2.2.2.2.2.2.2.2.2.2.2.2.2.2.2.2.2.2.2.2.2.2.2.2.2.2.2.2.2.2.2.2.2.2.2.2.2.2.2.2.2.2.2.2.2.2.2.2.2.2.2.2.2.2.2.1, (f _ _ (by omega) (by omega)).trans h.2.2.2.2.2.2.2.2.2.2.2.2.2.2.2.2.2.2.2.2.2.2.2.2.2.2.2.2.2.2.2.2.2.2.2.2.2.2.2.2.2.2.2.2.2.2.2.2.2.2.2.2.2.2.2.2.2.2.2.2.1, (f _ _ (by omega) (by omega)).trans h.2.2.2.2.2.2.2.2.2.2.2.2.2.2.2.2.2.2.2.2.2.2.2.2.2.2.2.2.2.2.2.2.2.2.2.2.2.2.2.2.2.2.2.2.2.2.2.2.2.2.2.2.2.2.2.2.2.2.2.2.2.1, SL.move h.2.2.2.2.2.2.2.2.2.2.2.2.2.2.2.2.2.2.2.2.2.2.2.2.2.2.2.2.2.2.2.2.2.2.2.2.2.2.2.2.2.2.2.2.2.2.2.2.2.2.2.2.2.2.2.2.2.2.2.2.2.2.1 e (fun a j _ _ => f a j (by omega) (by omega)), SL.move h.2.2.2.2.2.2.2.2.2.2.2.2.2.2.2.2.2.2.2.2.2.2.2.2.2.2.2.2.2.2.2.2.2.2.2.2.2.2.2.2.2.2.2.2.2.2.2.2.2.2.2.2.2.2.2.2.2.2.2.2.2.2.2.1 e (fun a j _ _ => f a j (by omega) (by omega)), SL.move h.2.2.2.2.2.2.2.2.2.2.2.2.2.2.2.2.2.2.2.2.2.2.2.2.2.2.2.2.2.2.2.2.2.2.2.2.2.2.2.2.2.2.2.2.2.2.2.2.2.2.2.2.2.2.2.2.2.2.2.2.2.2.2.2.1 e (fun a j _ _ => f a j (by omega) (by omega)), SL.move h.2.2.2.2.2.2.2.2.2.2.2.2.2.2.2.2.2.2.2.2.2.2.2.2.2.2.2.2.2.2.2.2.2.2.2.2.2.2.2.2.2.2.2.2.2.2.2.2.2.2.2.2.2.2.2.2.2.2.2.2.2.2.2.2.2.1 e (fun a j _ _ => f a j (by omega) (by omega)), BL.move h.2.2.2.2.2.2.2.2.2.2.2.2.2.2.2.2.2.2.2.2.2.2.2.2.2.2.2.2.2.2.2.2.2.2.2.2.2.2.2.2.2.2.2.2.2.2.2.2.2.2.2.2.2.2.2.2.2.2.2.2.2.2.2.2.2.2.1 e (fun a j _ _ => f a j (by omega) (by omega)), TL.move h.2.2.2.2.2.2.2.2.2.2.2.2.2.2.2.2.2.2.2.2.2.2.2.2.2.2.2.2.2.2.2.2.2.2.2.2.2.2.2.2.2.2.2.2.2.2.2.2.2.2.2.2.2.2.2.2.2.2.2.2.2.2.2.2.2.2.2.1 e (fun a j _ _ => f a j (by omega) (by omega)), TL.move h.2.2.2.2.2.2.2.2.2.2.2.2.2.2.2.2.2.2.2.2.2.2.2.2.2.2.2.2.2.2.2.2.2.2.2.2.2.2.2.2.2.2.2.2.2.2.2.2.2.2.2.2.2.2.2.2.2.2.2.2.2.2.2.2.2.2.2.2.1 e (fun a j _ _ => f a j (by omega) (by omega)), QL.move h.2.2.2.2.2.2.2.2.2.2.2.2.2.2.2.2.2.2.2.2.2.2.2.2.2.2.2.2.2.2.2.2.2.2.2.2.2.2.2.2.2.2.2.2.2.2.2.2.2.2.2.2.2.2.2.2.2.2.2.2.2.2.2.2.2.2.2.2.2.1 e (fun a j _ _ => f a j (by omega) (by omega)), QL.move h.2.2.2.2.2.2.2.2.2.2.2.2.2.2.2.2.2.2.2.2.2.2.2.2.2.2.2.2.2.2.2.2.2.2.2.2.2.2.2.2.2.2.2.2.2.2.2.2.2.2.2.2.2.2.2.2.2.2.2.2.2.2.2.2.2.2.2.2.2.2.1 e (fun a j _ _ => f a j (by omega) (by omega)), fun i hi => SL.move (h.2.2.2.2.2.2.2.2.2.2.2.2.2.2.2.2.2.2.2.2.2.2.2.2.2.2.2.2.2.2.2.2.2.2.2.2.2.2.2.2.2.2.2.2.2.2.2.2.2.2.2.2.2.2.2.2.2.2.2.2.2.2.2.2.2.2.2.2.2.2.2 i hi) e (fun a j _ _ => f a j (by omega) (by omega))⟩
theorem CJ.refs {x c : Nat} {g g' : ZS} {A : ZA} {U : List ZU} (h : CJ x g A) (hA : AI A c) (e1 : zsh g' = zsh g) (e2 : ∀ a j, ¬ (a = x + 87 ∧ j = 1) → zgi g' a j = zgi g a j) (e3 : zgl g' = zgl g) (e4 : ∀ a j, a ≠ x + 88 → zgr g' a j = zgr g a j) (hn : CP g' x (an A) (ame A) U) : CJ x g' (sU A U) := by
  obtain ⟨h1, h2, h3, h4, ⟨r, r', h5, h6, h7, h8⟩, ⟨h9, h10⟩, -, h15, h16, h17⟩ := h
  obtain ⟨⟨n6, -⟩, -, -, -, -, -, ⟨u12, -⟩, ⟨-, hE⟩, -⟩ := hA
  obtain ⟨g2, hg2⟩ : ∃ g2 : ZS, g2 = (g.1, g'.2.1, g'.2.2.1, g.2.2.2.1, g.2.2.2.2) := ⟨_, rfl⟩
  have hgi : zgi g2 = zgi g' := by rw [hg2]
  have hJ : zJ (fun a j => a = x + 87 ∧ j = 1) g g2 := by
    rw [hg2]
    exact ⟨rfl, rfl, fun a j hn => ⟨e2 a j hn, congrFun (congrFun e3 a) j⟩⟩
  have hCS : ∀ {s k d : Nat} {me : Nat → Nat} {B : Nat → ZB}, CS g2 s k d me B → CS g' s k d me B := fun h => by
    unfold CS CB at h ⊢; rw [hgi] at h; exact h
  have hCB : ∀ {q : Nat} {b : ZB}, CB g2 q b → CB g' q b := fun h => by
    unfold CB at h ⊢; rw [hgi] at h; exact h
  obtain ⟨t1, t2, t3, t4, t5, t6⟩ := h2
  refine ⟨h1.move (fun a => congrFun e1 a) (fun a j hn _ => e4 a j hn), ⟨by rw [e1]; exact t1, by rw [e1]; exact t2, by rw [e4 _ _ (by omega)]; exact t3, by rw [e2 _ _ (by omega)]; exact t4, t5, fun j hj => by rw [e2 _ _ (by omega)]; exact t6 j hj⟩, fun k hk => ⟨by rw [e2 _ _ (by omega)]; exact (h3 k hk).1, fun i hi => by rw [e2 _ _ (by omega)]; exact (h3 k hk).2 i hi⟩, fun w hw => by rw [e2 _ _ (by omega)]; exact h4 w hw, ⟨r, r', h5, by rw [e4 _ _ (by omega)]; exact h6, by rw [e4 _ _ (by omega)]; exact h7, by rw [e2 _ _ (by omega)]; exact h8.1, fun j hj => by rw [e2 _ _ (by omega)]; exact h8.2 j hj⟩, ⟨hCS (h9.keep n6 hJ (fun a j z => by have := z.1; have := z.2; omega)), fun p h1 h2 => hCB ((h10 p h1 h2).keepJ hJ (fun a j z => by have := z.1; have := z.2.1; omega))⟩, hn, fun i hi => ⟨by rw [e2 _ _ (by omega)]; exact (h15 i hi).1, fun u k q e => hCS (((h15 i hi).2 u k q e).keep (by have := (hE i hi u k q e).2.1; omega) hJ (fun a j z => by have := z.1; have := z.2; omega))⟩, ⟨by rw [e2 _ _ (by omega)]; exact h16.1, fun i hi => ⟨by rw [e2 _ _ (by omega)]; exact (h16.2 i hi).1, by rw [e2 _ _ (by omega)]; exact (h16.2 i hi).2⟩⟩, ⟨by rw [e2 _ _ (by omega)]; exact h17.1, fun i hi => ⟨by rw [e2 _ _ (by omega)]; exact (h17.2 i hi).1, by rw [e2 _ _ (by omega)]; exact (h17.2 i hi).2⟩⟩⟩
section PST
variable {N x c : Nat} {g : ZS} {A : ZA}
theorem CP.keepSc {n : Nat} {me : Nat → Nat} {U : List ZU} {S : Nat → Nat → Prop} {g' : ZS} (h : CP g x n me U) (hn : n ≤ 6) (hU : U.length ≤ 12) (hJ : zJ S g g') (h1 : ¬ S (x + 87) 1) (h2 : ∀ a j, x + 89 ≤ a → a < x + 473 → ¬ S a j) : CP g' x n me U := by
  obtain ⟨h11, σ, h12, h13, h14⟩ := h
  exact ⟨by rw [hJ.gi h1]; exact h11, σ, fun i hi => ⟨(h12 i hi).1, by rw [hJ.gr]; exact (h12 i hi).2⟩, h13, fun i hi => by
    have := (h12 i (by omega)).1
    exact (h14 i hi).keep hn hJ (fun a j z => by have := z.1; have := z.2; exact h2 a j (by omega) (by omega))⟩
/-- the oldest goes -/
theorem c_dropOldest (hN : 10000 ≤ N) (hC : CJ x g A) (hA : AI A c) (h12 : (aU A).length = 12) : zW (f_X4_dropOldest N (x + 87) g) (fun g' => CJ x g' (sU A (aU A).tail) ∧ zsh g' = zsh g ∧ zsz g' = zsz g ∧ zgl g' = zgl g ∧ (∀ a j, ¬ (a = x + 87 ∧ j = 1) → zgi g' a j = zgi g a j) ∧ ∀ a j, a ≠ x + 88 → zgr g' a j = zgr g a j) := by
  have n6 := hA.1.1
  have hL := hC.1
  obtain ⟨h11, σ, hσ, hin, hCS⟩ := hC.2.2.2.2.2.2.1
  have hsc : ∀ i, i < 12 → zsh g (x + 89 + 32 * σ i) = some (6, 0) := fun i hi => (hL.past (σ i) (hσ i hi).1).f.1
  unfold f_X4_dropOldest
  refine w_rdR hL.s87 hL.r87_0 ?_
  rw [c_0, a26_12 hL.s88 (by omega), (hσ 0 (by omega)).2, Option.bind_some, c_1]
  refine zW_forI (fun i g' => 1 ≤ i ∧ zsh g' = zsh g ∧ zsz g' = zsz g ∧ zgl g' = zgl g ∧ zgi g' = zgi g ∧ (∀ a j, a ≠ x + 88 → zgr g' a j = zgr g a j) ∧ (∀ j, j + 1 < i → zgr g' (x + 88) j = some (x + 89 + 32 * σ (j + 1))) ∧ ∀ j, i ≤ j + 1 → zgr g' (x + 88) j = zgr g (x + 88) j) 12 (fun i g' hi hI => ?_) (fun g' hI => ?_) (by omega) (show 1 ≤ 12 by omega) ⟨by omega, rfl, rfl, rfl, rfl, fun _ _ _ => rfl, fun j hj => by omega, fun _ _ => rfl⟩
  · obtain ⟨i1, e1, e2, e3, e4, e5, e6, e7⟩ := hI
    have s88 : zsh g' (x + 88) = some (26, 12) := by rw [e1]; exact hL.s88
    have s87 : zsh g' (x + 87) = some (4, 0) := by rw [e1]; exact hL.s87
    have r87 : zgr g' (x + 87) 0 = some (x + 88) := by rw [e5 _ _ (by omega)]; exact hL.r87_0
    show zW (f_X4_dropOldest_9 N (x + 87) (x + 89 + 32 * σ 0) (nI i) g') _
    unfold f_X4_dropOldest_9
    rw [c_12, if_neg (nI_ge hi (by omega))]
    refine w_rdR s87 r87 (w_rdR s87 r87 ?_)
    rw [a26_12 s88 (by omega), e7 i (by omega), (hσ i hi).2, Option.bind_some, c_1, nI_sub i1, p_aast s88 (by omega) (by omega) (by rw [e1]; exact hsc i hi), Option.bind_some, zW_some, zI_inl, nI_add]
    refine ⟨rfl, by omega, e1, e2, e3, e4, fun a j ha => by rw [gr_sR, if_neg (by omega)]; exact e5 a j ha, fun j hj => ?_, fun j hj => ?_⟩
    · rw [gr_sR]
      by_cases e : j = i - 1
      · rw [if_pos ⟨rfl, e⟩, e, show i - 1 + 1 = i by omega]
      · rw [if_neg (by omega)]; exact e6 j (by omega)
    · rw [gr_sR, if_neg (by omega)]; exact e7 j (by omega)
  · obtain ⟨i1, e1, e2, e3, e4, e5, e6, e7⟩ := hI
    have s88 : zsh g' (x + 88) = some (26, 12) := by rw [e1]; exact hL.s88
    have s87 : zsh g' (x + 87) = some (4, 0) := by rw [e1]; exact hL.s87
    have r87 : zgr g' (x + 87) 0 = some (x + 88) := by rw [e5 _ _ (by omega)]; exact hL.r87_0
    show zW (f_X4_dropOldest_9 N (x + 87) (x + 89 + 32 * σ 0) (nI 12) g') _
    unfold f_X4_dropOldest_9
    rw [c_12, if_pos (nI_le (Nat.le_refl _) (by omega)), zW_map]
    refine w_rdR s87 r87 ?_
    rw [show (11 : Int32) = nI 11 from rfl, p_aast s88 (by omega) (by omega) (by rw [e1]; exact hsc 0 (by omega)), Option.bind_some, p_wrI (by exact s87), Option.bind_some, zW_some]
    have f2 : ∀ a j, ¬ (a = x + 87 ∧ j = 1) → zgi (zsetI (zsetR g' (x + 88) 11 (some (x + 89 + 32 * σ 0))) (x + 87) 1 (nI 11)) a j = zgi g a j := fun a j hn => by
      rw [gi_sI, if_neg hn]; show zgi g' a j = _; rw [e4]
    have f4 : ∀ a j, a ≠ x + 88 → zgr (zsetI (zsetR g' (x + 88) 11 (some (x + 89 + 32 * σ 0))) (x + 87) 1 (nI 11)) a j = zgr g a j := fun a j ha => by
      show zgr (zsetR g' (x + 88) 11 (some (x + 89 + 32 * σ 0))) a j = _
      rw [gr_sR, if_neg (by omega)]; exact e5 a j ha
    refine ⟨hC.refs hA e1 f2 e3 f4 ⟨?_, fun i => if i < 11 then σ (i + 1) else σ 0, fun i hi => ?_, fun i j hi hj hij => ?_, fun i hi => ?_⟩, e1, e2, e3, f2, f4⟩
    · rw [gi_sI, if_pos ⟨rfl, rfl⟩, List.length_tail, h12]
    · dsimp only
      by_cases e : i < 11
      · rw [if_pos e]
        refine ⟨(hσ (i + 1) (by omega)).1, ?_⟩
        show zgr (zsetR g' (x + 88) 11 (some (x + 89 + 32 * σ 0))) (x + 88) i = _
        rw [gr_sR, if_neg (by omega)]; exact e6 i (by omega)
      · rw [if_neg e]
        refine ⟨(hσ 0 (by omega)).1, ?_⟩
        show zgr (zsetR g' (x + 88) 11 (some (x + 89 + 32 * σ 0))) (x + 88) i = _
        rw [gr_sR, if_pos ⟨rfl, by omega⟩]
    · dsimp only at hij
      by_cases e : i < 11
      · by_cases e' : j < 11
        · rw [if_pos e, if_pos e'] at hij
          have := hin _ _ (by omega) (by omega) hij; omega
        · rw [if_pos e, if_neg e'] at hij
          have := hin _ _ (by omega) (by omega) hij; omega
      · by_cases e' : j < 11
        · rw [if_neg e, if_pos e'] at hij
          have := hin _ _ (by omega) (by omega) hij; omega
        · omega
    · rw [List.length_tail, h12] at hi
      dsimp only
      rw [if_pos (by omega), getD_tail]
      have hk := hCS (i + 1) (by omega)
      have h1 := (hσ (i + 1) (by omega)).1
      obtain ⟨q1, q2, q3⟩ := hk
      refine ⟨by rw [f2 _ _ (by omega)]; exact q1, by rw [f2 _ _ (by omega)]; exact q2, fun p hp => ⟨(q3 p hp).1.keep (fun a j z => f2 a j (by have := z.1; have := z.2.1; omega)), by rw [f2 _ _ (by omega)]; exact (q3 p hp).2⟩⟩
theorem pU_AI {U : List ZU} {B : Nat → ZB} {d : Nat} (h1 : U.length ≤ 12) (h2 : ∀ i, i < U.length → SI (an A) (U.getD i u0).1 ∧ (U.getD i u0).2 ≤ 300 * c) (hB : SI (an A) B) (hd : d ≤ 300 * c) : (pU U (B, d)).length ≤ 12 ∧ ∀ i, i < (pU U (B, d)).length → SI (an A) ((pU U (B, d)).getD i u0).1 ∧ ((pU U (B, d)).getD i u0).2 ≤ 300 * c := by
  unfold pU
  have key : ∀ V : List ZU, V.length ≤ 11 → (∀ i, i < V.length → SI (an A) (V.getD i u0).1 ∧ (V.getD i u0).2 ≤ 300 * c) → (V ++ [(B, d)]).length ≤ 12 ∧ ∀ i, i < (V ++ [(B, d)]).length → SI (an A) ((V ++ [(B, d)]).getD i u0).1 ∧ ((V ++ [(B, d)]).getD i u0).2 ≤ 300 * c := by
    intro V hV hq
    rw [List.length_append, List.length_singleton]
    refine ⟨by omega, fun i hi => ?_⟩
    rw [getD_ap]
    by_cases e : i < V.length
    · rw [if_pos e]; exact hq i e
    · rw [if_neg e, if_pos (by omega)]; exact ⟨hB, hd⟩
  split
  · rename_i e
    refine key U.tail (by rw [List.length_tail]; omega) (fun i hi => ?_)
    rw [List.length_tail] at hi
    rw [getD_tail]; exact h2 (i + 1) (by omega)
  · exact key U (by omega) h2
theorem AI.setU {U : List ZU} (h : AI A c) (hU : U.length ≤ 12 ∧ ∀ i, i < U.length → SI (an A) (U.getD i u0).1 ∧ (U.getD i u0).2 ≤ 300 * c) : AI (sU A U) c := by
  obtain ⟨a1, a2, a3, a4, a5, a6, a7, a8⟩ := h
  exact ⟨a1, a2, a3, a4, a5, a6, hU, a8⟩
/-- what is laid aside in spare is remembered -/
theorem c_pastAdd {B : Nat → ZB} {d : Nat} {l : List Int64} (hN : 10000 ≤ N) (hC : CJ x g A) (hX : XR g (x + 3) (x + 4) l) (hA : AI A c) (hS : CS g (x + 55) (an A) d (ame A) B) (hB : SI (an A) B) : zW (f_X4_add N (x + 87) (x + 55) g) (fun g' => CJ x g' (sU A (pU (aU A) (B, d))) ∧ XR g' (x + 3) (x + 4) l ∧ zX x (x + 581) g g' ∧ CS g' (x + 55) (an A) d (ame A) B) := by
  have n6 := hA.1.1
  obtain ⟨u12, -⟩ := hA.2.2.2.2.2.2.1
  have fin : ∀ (g1 : ZS) (V : List ZU), V.length < 12 → CJ x g1 (sU A V) → AI (sU A V) c → XR g1 (x + 3) (x + 4) l → zX x (x + 581) g g1 → CS g1 (x + 55) (an A) d (ame A) B → zW (f_X4_add_13 N (x + 87) (x + 55) g1) (fun g' => CJ x g' (sU A (V ++ [(B, d)])) ∧ XR g' (x + 3) (x + 4) l ∧ zX x (x + 581) g g' ∧ CS g' (x + 55) (an A) d (ame A) B) := by
    intro g1 V hV C1 A1 X1 Z1 S1
    have hL := C1.1
    obtain ⟨h11, σ, hσ, hin, hCS⟩ := C1.2.2.2.2.2.2.1
    obtain ⟨w1, w2⟩ := hσ V.length hV
    have hsl := hL.past (σ V.length) w1
    unfold f_X4_add_13
    refine w_rdR hL.s87 hL.r87_0 (w_rdI hL.s87 h11 ?_)
    rw [a26_12 hL.s88 hV, w2, Option.bind_some]
    refine w_vs hsl.f.1 ?_
    refine (s_copyS hN hsl hL.SL55 (by omega) n6 S1 hB).bind (fun g2 h2 => ?_)
    obtain ⟨J2, D2⟩ := h2
    have s87 : zsh g2 (x + 87) = some (4, 0) := by rw [J2.sh]; exact hL.s87
    refine w_rdI s87 (show zgi g2 (x + 87) 1 = nI V.length by rw [J2.gi (by omega)]; exact h11) ?_
    rw [p_wrI s87, Option.bind_some, zW_some, c_1, nI_add]
    have J3 : zJ (fun a j => a = x + 87 ∧ j = 1) g2 (zsetI g2 (x + 87) 1 (nI (V.length + 1))) := zJ.setI ⟨rfl, rfl⟩
    have J : zJ (fun a j => Scr x a j ∨ a = x + 87 ∨ (x + 89 ≤ a ∧ a < x + 473)) g1 (zsetI g2 (x + 87) 1 (nI (V.length + 1))) := (J2.mono (fun a j z => by have := z.1; have := z.2; omega)).trans (J3.mono (fun a j z => by omega))
    have J' : zJ (fun a j => a = x + 87 ∨ (x + 89 ≤ a ∧ a < x + 473)) g1 (zsetI g2 (x + 87) 1 (nI (V.length + 1))) := (J2.mono (fun a j z => by have := z.1; have := z.2; omega)).trans (J3.mono (fun a j z => by omega))
    refine ⟨C1.setU A1 J ⟨by rw [gi_sI, if_pos ⟨rfl, rfl⟩, List.length_append, List.length_singleton], σ, fun i hi => ⟨(hσ i hi).1, by rw [J.gr]; exact (hσ i hi).2⟩, hin, fun i hi => ?_⟩, X1.keep J' (by omega) (fun j => by omega), Z1.trans (J'.toX (fun a j z => by omega)), S1.keep n6 J' (fun a j z => by have := z.1; have := z.2; omega)⟩
    rw [List.length_append, List.length_singleton] at hi
    rw [getD_ap]
    by_cases e : i < V.length
    · have hne : σ i ≠ σ V.length := fun h => by have := hin i V.length (by omega) hV h; omega
      have := (hσ i (by omega)).1
      rw [if_pos e]
      exact ((hCS i e).keep n6 J2 (fun a j z y => by have := z.1; have := z.2; have := y.1; have := y.2; omega)).keep n6 J3 (fun a j z => by have := z.1; omega)
    · have : i = V.length := by omega
      subst this
      rw [if_neg e, if_pos rfl]
      exact D2.keep n6 J3 (fun a j z => by have := z.1; omega)
  unfold f_X4_add
  refine w_rdI hC.1.s87 hC.2.2.2.2.2.2.1.1 ?_
  rw [c_12]
  by_cases h12 : (aU A).length = 12
  · rw [if_neg (nI_nlt (by omega) (by omega))]
    unfold pU
    rw [if_pos h12]
    refine w_vs hC.1.s87 ((c_dropOldest hN hC hA h12).bind (fun g1 h1 => ?_))
    obtain ⟨C1, e1, e2, e3, e4, e5⟩ := h1
    have hq := hA.2.2.2.2.2.2.1
    refine fin g1 (aU A).tail (by rw [List.length_tail]; omega) C1 (hA.setU ⟨by rw [List.length_tail]; omega, fun i hi => by rw [List.length_tail] at hi; rw [getD_tail]; exact hq.2 (i + 1) (by omega)⟩) ⟨by rw [e4 _ _ (by omega)]; exact hX.1, hX.2.1, fun j hj => by rw [e3]; exact hX.2.2 j hj⟩ ⟨Nat.le_of_eq e2.symm, fun a _ ho => ⟨by rw [e1], fun j => ⟨e4 a j (by omega), by rw [e3], e5 a j (by omega)⟩⟩⟩ ?_
    obtain ⟨q1, q2, q3⟩ := hS
    exact ⟨by rw [e4 _ _ (by omega)]; exact q1, by rw [e4 _ _ (by omega)]; exact q2, fun p hp => ⟨(q3 p hp).1.keep (fun a j z => e4 a j (by have := z.1; have := z.2.1; omega)), by rw [e4 _ _ (by omega)]; exact (q3 p hp).2⟩⟩
  · rw [if_pos (nI_lt (by omega) (by omega))]
    unfold pU
    rw [if_neg h12]
    exact fin g (aU A) (by omega) hC hA hX zX.rfl hS
/-- spare is as now -/
theorem c_spare {β : Type} {Q : β → Prop} {k : ZS → Option β} (hN : 10000 ≤ N) (hC : CJ x g A) (hA : AI A c) (hk : ∀ g', zJ (Ss (x + 55)) g g' → CS g' (x + 55) (an A) (ad A) (ame A) (aB A) → CJ x g' A → zW (k g') Q) : zW ((zrdR g x 11 7).bind fun v1 => (zrdR g x 11 6).bind fun v2 => zvs g v1 6 <| (f_X6_copyFrom N v1 v2 g).bind k) Q := by
  refine w_rdR hC.1.s0 hC.1.r0_7 (w_rdR hC.1.s0 hC.1.r0_6 (w_vs hC.1.SL55.f.1 ?_))
  refine (s_copyS hN hC.1.SL55 hC.1.SL23 (by omega) hA.1.1 hC.2.2.2.2.2.1.1 hA.1.2.2.1).bind (fun g' h => ?_)
  exact hk g' h.1 h.2 (hC.keep hA h.1 (fun a j z => by have := z.1; have := z.2; omega))
end PST
