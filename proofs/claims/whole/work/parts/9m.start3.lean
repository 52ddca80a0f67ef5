/-! ===== the start: how it is built ===== -/
def zFr (g : ZS) (k : Nat × Nat) (g' : ZS) : Prop := zsz g' = zsz g + 1 ∧ (∀ a, zsh g' a = if a = zsz g then some k else zsh g a) ∧ (∀ a j, zgi g' a j = if a = zsz g then 0 else zgi g a j) ∧ (∀ a j, zgl g' a j = if a = zsz g then 0 else zgl g a j) ∧ (∀ a j, zgr g' a j = if a = zsz g then none else zgr g a j)
def zBl (x : Nat) (g0 g : ZS) : Prop := ∀ a, a < x → zsh g a = zsh g0 a ∧ ∀ j, zgi g a j = zgi g0 a j ∧ zgl g a j = zgl g0 a j ∧ zgr g a j = zgr g0 a j
theorem zBl.rfl {x : Nat} {g : ZS} : zBl x g g := fun _ _ => ⟨Eq.refl _, fun _ => ⟨Eq.refl _, Eq.refl _, Eq.refl _⟩⟩
theorem zBl.trans {x y : Nat} {g g1 g2 : ZS} (h : zBl x g g1) (h' : zBl y g1 g2) (hy : x ≤ y) : zBl x g g2 := fun a ha => ⟨(h' a (by omega)).1.trans (h a ha).1, fun j => ⟨((h' a (by omega)).2 j).1.trans ((h a ha).2 j).1, ((h' a (by omega)).2 j).2.1.trans ((h a ha).2 j).2.1, ((h' a (by omega)).2 j).2.2.trans ((h a ha).2 j).2.2⟩⟩
theorem zFr.bl {g g1 : ZS} {k : Nat × Nat} {x : Nat} (h : zFr g k g1) (hx : x ≤ zsz g) : zBl x g g1 := fun a ha => ⟨by rw [h.2.1, if_neg (by omega)], fun j => ⟨by rw [h.2.2.1, if_neg (by omega)], by rw [h.2.2.2.1, if_neg (by omega)], by rw [h.2.2.2.2, if_neg (by omega)]⟩⟩
theorem w_nw {β : Type} {Q : β → Prop} {g : ZS} {k : Nat × Nat} {H : Nat × ZS → Option β} {x : Nat} (hx : zsz g = x) (h : ∀ g', zFr g k g' → zW (H (x, g')) Q) : zW ((zalloc g k).bind H) Q := by
  unfold zalloc
  rw [Option.bind_some, hx]
  exact h (znew g k) ⟨rfl, fun a => rfl, fun a j => rfl, fun a j => rfl, fun a j => rfl⟩
def zLo (x n J s L w : Nat) (P : ZS → Prop) : Prop := ∀ g g', (∀ a, x ≤ a → a < x + n → zsh g' a = zsh g a) → (∀ a i, x ≤ a → a < x + n → (a = x → i < J) → (a = s → i < L) → zgr g' a i = zgr g a i) → (∀ a i, x ≤ a → a < x + n → a ≠ w → zgi g' a i = zgi g a i) → P g → P g'
def zBd (x n J s L w u ci : Nat) (Z : Nat → Prop) (P : ZS → Prop) (g0 g : ZS) : Prop := zsz g = x + n ∧ 0 < n ∧ zsh g x = some (ci, 0) ∧ zBl x g0 g ∧ (∀ a j, x ≤ a → a < x + n → ¬ Z a → zgi g a j = 0) ∧ (∀ j, j < u → zgi g w j = 1) ∧ zLo x n J s L w P ∧ P g
def zMd (q n : Nat) (Z : Nat → Prop) (G : ZS → Prop) (g g' : ZS) : Prop := zsz g' = q + n ∧ 0 < n ∧ zBl q g g' ∧ (∀ a j, q ≤ a → a < q + n → ¬ Z a → zgi g' a j = 0) ∧ (∀ h h', (∀ a, q ≤ a → a < q + n → zsh h' a = zsh h a ∧ ∀ i, zgr h' a i = zgr h a i ∧ zgi h' a i = zgi h a i) → G h → G h') ∧ G g'
section BD
variable {x n J s L w u ci : Nat} {Z : Nat → Prop} {P : ZS → Prop} {g0 g g1 g2 : ZS} {β : Type} {Q : β → Prop}
theorem zBd.start {q : Nat} (hq : zsz g0 = q) (h : zFr g0 (ci, 0) g) : zBd q 1 0 s L w 0 ci Z (fun _ => True) g g :=
  ⟨by rw [h.1, hq], by omega, by rw [h.2.1, if_pos hq.symm], zBl.rfl, fun a j x y _ => by rw [h.2.2.1, if_pos (by omega)], fun j hj => absurd hj (Nat.not_lt_zero j), fun _ _ _ _ _ _ => trivial, trivial⟩
theorem w_al {k : Nat × Nat} {K : Nat × ZS → Option β} (n' : Nat) (h : zBd x n J s L w u ci Z P g0 g) (hn : n' = n + 1) (hw : w < x + n ∨ u = 0) (hk : ∀ g', zBd x n' J s L w u ci Z (fun g => P g ∧ zsh g (x + n) = some k) g0 g' → zW (K (x + n, g')) Q) : zW ((zalloc g k).bind K) Q := by
  obtain ⟨z, n0, h1, h2, h3, h4, h5, h6⟩ := h
  refine w_nw z (fun g1 f => hk g1 ?_)
  have bl := f.bl (x := x + n) (by omega)
  subst hn
  refine ⟨by rw [f.1, z]; rfl, by omega, (bl x (by omega)).1.trans h1, h2.trans bl (by omega), fun a j y y' hz => ?_, fun j hj => ?_, ?_, ?_, ?_⟩
  · rw [f.2.2.1]
    by_cases e : a = zsz g
    · rw [if_pos e]
    · rw [if_neg e]; exact h3 a j y (by omega) hz
  · have : w < x + n := by omega
    rw [((bl w this).2 j).1]; exact h4 j hj
  · intro ga gb e1 e2 e3 hp
    exact ⟨h5 ga gb (fun a y y' => e1 a y (by omega)) (fun a i y y' => e2 a i y (by omega)) (fun a i y y' => e3 a i y (by omega)) hp.1, (e1 _ (by omega) (by omega)).trans hp.2⟩
  · exact h5 g g1 (fun a y y' => (bl a y').1) (fun a i y y' _ _ => ((bl a y').2 i).2.2) (fun a i y y' _ => ((bl a y').2 i).1) h6
  · rw [f.2.1, if_pos (by omega)]
theorem zBd.sub {k : Nat × Nat} {sz : Nat} {Z' : Nat → Prop} {G : ZS → Prop} (n' : Nat) (h : zBd x n J s L w u ci Z P g0 g) (f : zFr g k g1) (m : zMd (x + n) sz Z' G g1 g2) (hn : n' = n + sz) (hZ : ∀ a, x + n ≤ a → a < x + n + sz → Z' a → Z a) (hs : s < x + n ∨ x + n + sz ≤ s) (hw : w < x + n ∨ x + n + sz ≤ w ∧ u = 0) : zBd x n' J s L w u ci Z (fun g => P g ∧ G g) g0 g2 := by
  obtain ⟨z, n0, h1, h2, h3, h4, h5, h6⟩ := h
  obtain ⟨m1, m0, m2, m3, m4, m5⟩ := m
  have bl := (f.bl (x := x + n) (by omega)).trans m2 (Nat.le_refl _)
  subst hn
  refine ⟨by rw [m1]; omega, by omega, (bl x (by omega)).1.trans h1, h2.trans bl (by omega), fun a j y y' hz => ?_, fun j hj => ?_, ?_, ?_, m5⟩
  · by_cases e : a < x + n
    · rw [((bl a e).2 j).1]; exact h3 a j y e hz
    · exact m3 a j (by omega) (by omega) (fun h => hz (hZ a (by omega) (by omega) h))
  · rw [((bl w (by omega)).2 j).1]; exact h4 j hj
  · intro ga gb e1 e2 e3 hp
    exact ⟨h5 ga gb (fun a y y' => e1 a y (by omega)) (fun a i y y' => e2 a i y (by omega)) (fun a i y y' => e3 a i y (by omega)) hp.1, m4 ga gb (fun a y y' => ⟨e1 a (by omega) (by omega), fun i => ⟨e2 a i (by omega) (by omega) (fun h => by omega) (fun h => by omega), e3 a i (by omega) (by omega) (by omega)⟩⟩) hp.2⟩
  · exact h5 g g2 (fun a y y' => (bl a y').1) (fun a i y y' _ _ => ((bl a y').2 i).2.2) (fun a i y y' _ => ((bl a y').2 i).1) h6
theorem w_wr {j t : Nat} {K : ZS → Option β} (h : zBd x n J s L w u ci Z P g0 g) (hj : J ≤ j) (hL : x ≠ s ∨ j < L) (hk : ∀ g', zBd x n (j + 1) s L w u ci Z (fun g => P g ∧ zgr g x j = some t) g0 g' → zW (K g') Q) : zW ((zwrR g x ci j t).bind K) Q := by
  obtain ⟨z, n0, h1, h2, h3, h4, h5, h6⟩ := h
  rw [p_wrR h1, Option.bind_some]
  refine hk _ ⟨z, n0, h1, fun a ha => ⟨(h2 a ha).1, fun i => ⟨((h2 a ha).2 i).1, ((h2 a ha).2 i).2.1, by rw [gr_sR, if_neg (by omega)]; exact ((h2 a ha).2 i).2.2⟩⟩, h3, h4, ?_, ?_, ?_⟩
  · intro ga gb e1 e2 e3 hp
    exact ⟨h5 ga gb e1 (fun a i y y' c c' => e2 a i y y' (fun h => by have := c h; omega) c') e3 hp.1, (e2 x j (Nat.le_refl _) (by omega) (fun _ => by omega) (fun h => by omega)).trans hp.2⟩
  · exact h5 g _ (fun a y y' => rfl) (fun a i y y' c c' => by rw [gr_sR, if_neg (fun h => by have := c h.1; omega)]) (fun a i y y' _ => rfl) h6
  · rw [gr_sR, if_pos ⟨rfl, rfl⟩]
theorem w_el {k l t : Nat} {kd nn : Nat} {K : ZS → Option β} (h : zBd x n J s L w u ci Z P g0 g) (hs : zsh g s = some (26, k)) (hl : l < k) (hk31 : k < 2 ^ 31) (ht : zsh g t = some (6, 0)) (hL : L ≤ l) (hxs : x < s ∧ s < x + n) (hk : ∀ g', zBd x n J s (l + 1) w u ci Z (fun g => P g ∧ zgr g s l = some t) g0 g' → zW (K g') Q) : zW ((zaast 26 g s (nI l) t).bind K) Q := by
  obtain ⟨z, n0, h1, h2, h3, h4, h5, h6⟩ := h
  rw [p_aast hs hl hk31 ht, Option.bind_some]
  refine hk _ ⟨z, n0, h1, fun a ha => ⟨(h2 a ha).1, fun i => ⟨((h2 a ha).2 i).1, ((h2 a ha).2 i).2.1, by rw [gr_sR, if_neg (by omega)]; exact ((h2 a ha).2 i).2.2⟩⟩, h3, h4, ?_, ?_, ?_⟩
  · intro ga gb e1 e2 e3 hp
    exact ⟨h5 ga gb e1 (fun a i y y' c c' => e2 a i y y' c (fun h => by have := c' h; omega)) e3 hp.1, (e2 s l (by omega) (by omega) (fun h => by omega) (fun _ => by omega)).trans hp.2⟩
  · exact h5 g _ (fun a y y' => rfl) (fun a i y y' c c' => by rw [gr_sR, if_neg (fun h => by have := c' h.1; omega)]) (fun a i y y' _ => rfl) h6
  · rw [gr_sR, if_pos ⟨rfl, rfl⟩]
theorem w_one {k : Nat} {K : ZS → Option β} (u' : Nat) (h : zBd x n J s L w u ci Z P g0 g) (hu : u' = u + 1) (hs : zsh g w = some (20, k)) (hl : u < k) (hk31 : k < 2 ^ 31) (hxs : x < w ∧ w < x + n) (hZ : Z w) (hk : ∀ g', zBd x n J s L w u' ci Z P g0 g' → zW (K g') Q) : zW ((zast 20 g w (nI u) (1 : Int32)).bind K) Q := by
  obtain ⟨z, n0, h1, h2, h3, h4, h5, h6⟩ := h
  rw [p_ast hs hl hk31, Option.bind_some]
  subst hu
  refine hk _ ⟨z, n0, h1, fun a ha => ⟨(h2 a ha).1, fun i => ⟨by rw [gi_sI, if_neg (by omega)]; exact ((h2 a ha).2 i).1, ((h2 a ha).2 i).2.1, ((h2 a ha).2 i).2.2⟩⟩, fun a j y y' hz => ?_, fun j hj => ?_, h5, ?_⟩
  · rw [gi_sI, if_neg (fun h => by rw [h.1] at hz; exact hz hZ)]; exact h3 a j y y' hz
  · rw [gi_sI]
    by_cases e : j = u
    · rw [if_pos ⟨rfl, e⟩]; rfl
    · rw [if_neg (fun h => e h.2)]; exact h4 j (by omega)
  · exact h5 g _ (fun a y y' => rfl) (fun a i y y' _ _ => rfl) (fun a i y y' c => by rw [gi_sI, if_neg (fun h => c h.1)]) h6
theorem zBd.seal (w' : Nat) (h : zBd x n J s L w u ci Z P g0 g) (hxs : x ≤ w ∧ w < x + n) (hw' : x + n ≤ w') : zBd x n J s L w' 0 ci Z (fun g => P g ∧ ∀ j, j < u → zgi g w j = 1) g0 g := by
  obtain ⟨z, n0, h1, h2, h3, h4, h5, h6⟩ := h
  refine ⟨z, n0, h1, h2, h3, fun j hj => absurd hj (Nat.not_lt_zero j), ?_, h6, h4⟩
  intro ga gb e1 e2 e3 hp
  exact ⟨h5 ga gb e1 e2 (fun a i y y' _ => e3 a i y y' (by omega)) hp.1, fun j hj => (e3 w j hxs.1 hxs.2 (by omega)).trans (hp.2 j hj)⟩
theorem zBd.md (h : zBd x n J s L w u ci Z P g0 g) : zMd x n Z (fun g => zsh g x = some (ci, 0) ∧ P g) g0 g := by
  obtain ⟨z, n0, h1, h2, h3, h4, h5, h6⟩ := h
  exact ⟨z, n0, h2, h3, fun ga gb e hp => ⟨(e x (Nat.le_refl _) (by omega)).1.trans hp.1, h5 ga gb (fun a y y' => (e a y y').1) (fun a i y y' _ _ => ((e a y y').2 i).1) (fun a i y y' _ => ((e a y y').2 i).2) hp.2⟩, h1, h6⟩
theorem zMd.to {q : Nat} {G G' : ZS → Prop} (h : zMd q n Z G g g1) (hG : G g1 → G' g1) (hL : ∀ h h', (∀ a, q ≤ a → a < q + n → zsh h' a = zsh h a ∧ ∀ i, zgr h' a i = zgr h a i ∧ zgi h' a i = zgi h a i) → G' h → G' h') : zMd q n Z G' g g1 := ⟨h.1, h.2.1, h.2.2.1, h.2.2.2.1, hL, hG h.2.2.2.2.2⟩
theorem w_alM {c k : Nat} {K : Nat × ZS → Option β} (n' : Nat) (h : zBd x n J s L w u ci Z P g0 g) (hn : n' = n + 1 + c) (hw : w < x + n ∨ x + n + 1 + c ≤ w ∧ u = 0) (hs : s < x + n ∨ x + n + 1 + c ≤ s) (hk : ∀ g', zBd x n' J s L w u ci Z (fun g => P g ∧ zsh g (x + n) = some (27, c) ∧ ∀ i, i < c → zgr g (x + n) i = some (x + n + 1 + i) ∧ zsh g (x + n + 1 + i) = some (20, k)) g0 g' → zW (K (x + n, g')) Q) : zW ((zallocM g c k).bind K) Q := by
  obtain ⟨z, n0, h1, h2, h3, h4, h5, h6⟩ := h
  unfold zallocM
  rw [Option.bind_some, z]
  have S : ∀ a, zsh (znewM g c k) a = if a = zsz g then some (27, c) else if zsz g < a ∧ a ≤ zsz g + c then some (20, k) else zsh g a := fun a => rfl
  have I : ∀ a i, zgi (znewM g c k) a i = if zsz g ≤ a ∧ a ≤ zsz g + c then 0 else zgi g a i := fun a i => rfl
  have R : ∀ a i, zgr (znewM g c k) a i = if a = zsz g then (if i < c then some (zsz g + 1 + i) else none) else zgr g a i := fun a i => rfl
  rw [z] at S I R
  have bl : zBl (x + n) g (znewM g c k) := fun a ha => ⟨by rw [S, if_neg (by omega), if_neg (by omega)], fun j => ⟨by rw [I, if_neg (by omega)], rfl, by rw [R, if_neg (by omega)]⟩⟩
  subst hn
  refine hk _ ⟨by show zsz g + 1 + c = _; omega, by omega, (bl x (by omega)).1.trans h1, h2.trans bl (by omega), fun a j y y' hz => ?_, fun j hj => ?_, ?_, ?_, ?_, fun i hi => ⟨?_, ?_⟩⟩
  · by_cases e : a < x + n
    · rw [((bl a e).2 j).1]; exact h3 a j y e hz
    · rw [I, if_pos (by omega)]
  · rw [((bl w (by omega)).2 j).1]; exact h4 j hj
  · intro ga gb e1 e2 e3 hp
    exact ⟨h5 ga gb (fun a y y' => e1 a y (by omega)) (fun a i y y' => e2 a i y (by omega)) (fun a i y y' => e3 a i y (by omega)) hp.1, (e1 _ (by omega) (by omega)).trans hp.2.1, fun i hi => ⟨(e2 _ i (by omega) (by omega) (fun h => by omega) (fun h => by omega)).trans (hp.2.2 i hi).1, (e1 _ (by omega) (by omega)).trans (hp.2.2 i hi).2⟩⟩
  · exact h5 g _ (fun a y y' => (bl a y').1) (fun a i y y' _ _ => ((bl a y').2 i).2.2) (fun a i y y' _ => ((bl a y').2 i).1) h6
  · rw [S, if_pos rfl]
  · rw [R, if_pos rfl, if_pos hi]
  · rw [S, if_neg (by omega), if_pos (by omega)]
end BD
