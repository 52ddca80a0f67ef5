/-! ===== the start: the small objects, one after another ===== -/
theorem X5_md {g0 g : ZS} {q : Nat} (hq : zsz g0 = q) (f : zFr g0 (5, 0) g) : zW (f_X5_init q g) (zMd q 5 (fun _ => False) (fun g => QL (zh g) q) g) := by
  unfold f_X5_init
  have h0 := zBd.start (ci := 5) (s := q) (L := 1000) (w := q + 1000) (Z := fun _ => False) hq f
  refine w_al 2 h0 rfl (Or.inr rfl) (fun g1 h1 => ?_)
  refine w_wr h1 (by omega) (Or.inr (by omega)) (fun g2 h2 => ?_)
  refine w_al 3 h2 rfl (Or.inr rfl) (fun g3 h3 => ?_)
  refine w_wr h3 (by omega) (Or.inr (by omega)) (fun g4 h4 => ?_)
  refine w_al 4 h4 rfl (Or.inr rfl) (fun g5 h5 => ?_)
  refine w_wr h5 (by omega) (Or.inr (by omega)) (fun g6 h6 => ?_)
  refine w_al 5 h6 rfl (Or.inr rfl) (fun g7 h7 => ?_)
  refine w_wr h7 (by omega) (Or.inr (by omega)) (fun g8 h8 => ?_)
  rw [zW_some]
  refine h8.md.to (fun ⟨s0, hh⟩ => ?_) (fun ga gb e hp => ?_)
  · obtain ⟨⟨⟨⟨⟨⟨⟨⟨-, s1⟩, r1⟩, s2⟩, r2⟩, s3⟩, r3⟩, s4⟩, r4⟩ := hh
    exact ⟨s0, s1, s2, s3, s4, r1, r2, r3, r4⟩
  · exact QL.inn hp (fun a y z => (e a y z).1) (fun a j y z => ((e a y z).2 j).1)
theorem X7_md {g0 g : ZS} {q : Nat} (hq : zsz g0 = q) (f : zFr g0 (7, 0) g) : zW (f_X7_init q g) (zMd q 6 (fun _ => False) (fun g => zsh g q = some (7, 0) ∧ zsh g (q + 1) = some (20, 12) ∧ zsh g (q + 2) = some (20, 12) ∧ zsh g (q + 3) = some (20, 8) ∧ zsh g (q + 4) = some (20, 9) ∧ zsh g (q + 5) = some (20, 256) ∧ zgr g q 0 = some (q + 1) ∧ zgr g q 1 = some (q + 2) ∧ zgr g q 2 = some (q + 3) ∧ zgr g q 3 = some (q + 4) ∧ zgr g q 4 = some (q + 5)) g) := by
  unfold f_X7_init
  have h0 := zBd.start (ci := 7) (s := q) (L := 1000) (w := q + 1000) (Z := fun _ => False) hq f
  refine w_al 2 h0 rfl (Or.inr rfl) (fun g1 h1 => ?_)
  refine w_wr h1 (by omega) (Or.inr (by omega)) (fun g2 h2 => ?_)
  refine w_al 3 h2 rfl (Or.inr rfl) (fun g3 h3 => ?_)
  refine w_wr h3 (by omega) (Or.inr (by omega)) (fun g4 h4 => ?_)
  refine w_al 4 h4 rfl (Or.inr rfl) (fun g5 h5 => ?_)
  refine w_wr h5 (by omega) (Or.inr (by omega)) (fun g6 h6 => ?_)
  refine w_al 5 h6 rfl (Or.inr rfl) (fun g7 h7 => ?_)
  refine w_wr h7 (by omega) (Or.inr (by omega)) (fun g8 h8 => ?_)
  refine w_al 6 h8 rfl (Or.inr rfl) (fun g9 h9 => ?_)
  refine w_wr h9 (by omega) (Or.inr (by omega)) (fun g10 h10 => ?_)
  rw [zW_some]
  refine h10.md.to (fun ⟨s0, hh⟩ => ?_) (fun ga gb e hp => ?_)
  · obtain ⟨⟨⟨⟨⟨⟨⟨⟨⟨⟨-, s1⟩, r1⟩, s2⟩, r2⟩, s3⟩, r3⟩, s4⟩, r4⟩, s5⟩, r5⟩ := hh
    exact ⟨s0, s1, s2, s3, s4, s5, r1, r2, r3, r4, r5⟩
  · exact ⟨(e q (by omega) (by omega)).1.trans hp.1, (e (q + 1) (by omega) (by omega)).1.trans hp.2.1, (e (q + 2) (by omega) (by omega)).1.trans hp.2.2.1, (e (q + 3) (by omega) (by omega)).1.trans hp.2.2.2.1, (e (q + 4) (by omega) (by omega)).1.trans hp.2.2.2.2.1, (e (q + 5) (by omega) (by omega)).1.trans hp.2.2.2.2.2.1, ((e q (by omega) (by omega)).2 0).1.trans hp.2.2.2.2.2.2.1, ((e q (by omega) (by omega)).2 1).1.trans hp.2.2.2.2.2.2.2.1, ((e q (by omega) (by omega)).2 2).1.trans hp.2.2.2.2.2.2.2.2.1, ((e q (by omega) (by omega)).2 3).1.trans hp.2.2.2.2.2.2.2.2.2.1, ((e q (by omega) (by omega)).2 4).1.trans hp.2.2.2.2.2.2.2.2.2.2⟩
theorem X3_md {g0 g : ZS} {q : Nat} (hq : zsz g0 = q) (f : zFr g0 (3, 0) g) : zW (f_X3_init q g) (zMd q 3 (fun _ => False) (fun g => zsh g q = some (3, 0) ∧ zsh g (q + 1) = some (20, 12) ∧ zsh g (q + 2) = some (20, 12) ∧ zgr g q 0 = some (q + 1) ∧ zgr g q 1 = some (q + 2)) g) := by
  unfold f_X3_init
  have h0 := zBd.start (ci := 3) (s := q) (L := 1000) (w := q + 1000) (Z := fun _ => False) hq f
  refine w_al 2 h0 rfl (Or.inr rfl) (fun g1 h1 => ?_)
  refine w_wr h1 (by omega) (Or.inr (by omega)) (fun g2 h2 => ?_)
  refine w_al 3 h2 rfl (Or.inr rfl) (fun g3 h3 => ?_)
  refine w_wr h3 (by omega) (Or.inr (by omega)) (fun g4 h4 => ?_)
  rw [zW_some]
  refine h4.md.to (fun ⟨s0, hh⟩ => ?_) (fun ga gb e hp => ?_)
  · obtain ⟨⟨⟨⟨-, s1⟩, r1⟩, s2⟩, r2⟩ := hh
    exact ⟨s0, s1, s2, r1, r2⟩
  · exact ⟨(e q (by omega) (by omega)).1.trans hp.1, (e (q + 1) (by omega) (by omega)).1.trans hp.2.1, (e (q + 2) (by omega) (by omega)).1.trans hp.2.2.1, ((e q (by omega) (by omega)).2 0).1.trans hp.2.2.2.1, ((e q (by omega) (by omega)).2 1).1.trans hp.2.2.2.2⟩
theorem X8_md {g0 g : ZS} {q : Nat} (hq : zsz g0 = q) (f : zFr g0 (8, 0) g) : zW (f_X8_init q g) (zMd q 2 (fun _ => False) (fun g => zsh g q = some (8, 0) ∧ zsh g (q + 1) = some (23, 80) ∧ zgr g q 0 = some (q + 1)) g) := by
  unfold f_X8_init
  have h0 := zBd.start (ci := 8) (s := q) (L := 1000) (w := q + 1000) (Z := fun _ => False) hq f
  refine w_al 2 h0 rfl (Or.inr rfl) (fun g1 h1 => ?_)
  refine w_wr h1 (by omega) (Or.inr (by omega)) (fun g2 h2 => ?_)
  rw [zW_some]
  refine h2.md.to (fun ⟨s0, hh⟩ => ?_) (fun ga gb e hp => ?_)
  · obtain ⟨⟨-, s1⟩, r1⟩ := hh
    exact ⟨s0, s1, r1⟩
  · exact ⟨(e q (by omega) (by omega)).1.trans hp.1, (e (q + 1) (by omega) (by omega)).1.trans hp.2.1, ((e q (by omega) (by omega)).2 0).1.trans hp.2.2⟩
theorem X9_md {g0 g : ZS} {q : Nat} (hq : zsz g0 = q) (f : zFr g0 (9, 0) g) : zW (f_X9_init q g) (zMd q 2 (fun _ => False) (fun g => zsh g q = some (9, 0) ∧ zsh g (q + 1) = some (24, 8) ∧ zgr g q 0 = some (q + 1)) g) := by
  unfold f_X9_init
  have h0 := zBd.start (ci := 9) (s := q) (L := 1000) (w := q + 1000) (Z := fun _ => False) hq f
  refine w_al 2 h0 rfl (Or.inr rfl) (fun g1 h1 => ?_)
  refine w_wr h1 (by omega) (Or.inr (by omega)) (fun g2 h2 => ?_)
  rw [zW_some]
  refine h2.md.to (fun ⟨s0, hh⟩ => ?_) (fun ga gb e hp => ?_)
  · obtain ⟨⟨-, s1⟩, r1⟩ := hh
    exact ⟨s0, s1, r1⟩
  · exact ⟨(e q (by omega) (by omega)).1.trans hp.1, (e (q + 1) (by omega) (by omega)).1.trans hp.2.1, ((e q (by omega) (by omega)).2 0).1.trans hp.2.2⟩
theorem zMk.md {q n : Nat} {G : ZS → Prop} {g g' : ZS} (h : zMk q g g') (hz : zsz g' = q + n) (hn : 0 < n) (hG : G g') (hL : ∀ h h', (∀ a, q ≤ a → a < q + n → zsh h' a = zsh h a ∧ ∀ i, zgr h' a i = zgr h a i ∧ zgi h' a i = zgi h a i) → G h → G h') : zMd q n (fun _ => False) G g g' := ⟨hz, hn, h.1, fun a j y z _ => (h.2 a j y (by omega)).1, hL, hG⟩
theorem X0_md {g0 g : ZS} {q : Nat} (hq : zsz g0 = q) (f : zFr g0 (0, 0) g) : zW (f_X0_init q g) (zMd q 5 (fun _ => False) (fun g => BL (zh g) q) g) := by
  obtain ⟨g', h1, h2, h3, h4⟩ := X0_made (q := q) (g := g) (by rw [f.1, hq]) (by rw [f.2.1, if_pos hq.symm]) (fun j => ⟨by rw [f.2.2.1, if_pos hq.symm], by rw [f.2.2.2.1, if_pos hq.symm]⟩)
  exact ⟨g', h1, h3.md h2 (by omega) h4 (fun ga gb e hp => BL.inn hp (fun a y z => (e a y z).1) (fun a j y z => ((e a y z).2 j).1))⟩
theorem X6_md {g0 g : ZS} {q : Nat} (hq : zsz g0 = q) (f : zFr g0 (6, 0) g) : zW (f_X6_init q g) (zMd q 32 (fun _ => False) (fun g => SL (zh g) q) g) := by
  obtain ⟨g', h1, h2, h3, h4⟩ := X6_made (s := q) (g := g) (by rw [f.1, hq]) (by rw [f.2.1, if_pos hq.symm]) (fun j => ⟨by rw [f.2.2.1, if_pos hq.symm], by rw [f.2.2.2.1, if_pos hq.symm]⟩)
  exact ⟨g', h1, h3.md h2 (by omega) h4 (fun ga gb e hp => SL.inn hp (fun a y z => (e a y z).1) (fun a j y z => ((e a y z).2 j).1))⟩
theorem X10_md {g0 g : ZS} {q : Nat} (hq : zsz g0 = q) (f : zFr g0 (10, 0) g) : zW (f_X10_init q g) (zMd q 13 (fun _ => False) (fun g => TL (zh g) q) g) := by
  unfold f_X10_init
  have h0 := zBd.start (ci := 10) (s := q) (L := 1000) (w := q + 1000) (Z := fun _ => False) hq f
  refine w_al 2 h0 rfl (Or.inr rfl) (fun g1 h1 => ?_)
  refine w_wr h1 (by omega) (Or.inr (by omega)) (fun g2 h2 => ?_)
  refine w_al 3 h2 rfl (Or.inr rfl) (fun g3 h3 => ?_)
  refine w_wr h3 (by omega) (Or.inr (by omega)) (fun g4 h4 => ?_)
  refine w_alM 13 h4 rfl (Or.inr ⟨by omega, rfl⟩) (Or.inl (by omega)) (fun g5 h5 => ?_)
  refine w_wr h5 (by omega) (Or.inr (by omega)) (fun g6 h6 => ?_)
  rw [zW_some]
  refine h6.md.to (fun ⟨s0, hh⟩ => ?_) (fun ga gb e hp => ?_)
  · obtain ⟨⟨⟨⟨⟨⟨-, s1⟩, r1⟩, s2⟩, r2⟩, s3, s4⟩, r3⟩ := hh
    exact ⟨s0, s1, s2, s3, r1, r2, r3, s4⟩
  · exact TL.inn hp (fun a y z => (e a y z).1) (fun a j y z => ((e a y z).2 j).1)
theorem X2_md {g0 g : ZS} {q : Nat} (hq : zsz g0 = q) (f : zFr g0 (2, 0) g) : zW (f_X2_init q g) (zMd q 7 (fun a => a = q + 6) (fun g => zsh g q = some (2, 0) ∧ zsh g (q + 1) = some (27, 4) ∧ (∀ i, i < 4 → zgr g (q + 1) i = some (q + 1 + 1 + i) ∧ zsh g (q + 1 + 1 + i) = some (20, 16)) ∧ zgr g q 0 = some (q + 1) ∧ zsh g (q + 6) = some (20, 4) ∧ zgr g q 1 = some (q + 6) ∧ ∀ j, j < 4 → zgi g (q + 6) j = 1) g) := by
  unfold f_X2_init
  have h0 := zBd.start (ci := 2) (s := q) (L := 1000) (w := q + 6) (Z := fun a => a = q + 6) hq f
  refine w_alM 6 h0 rfl (Or.inr ⟨by omega, rfl⟩) (Or.inl (by omega)) (fun g1 h1 => ?_)
  refine w_wr h1 (by omega) (Or.inr (by omega)) (fun g2 h2 => ?_)
  refine w_al 7 h2 rfl (Or.inr rfl) (fun g3 h3 => ?_)
  refine w_wr h3 (by omega) (Or.inr (by omega)) (fun g4 h4 => ?_)
  have get : ∀ {u : Nat} {g' : ZS}, zBd q 7 (1 + 1) q 1000 (q + 6) u 2 (fun a => a = q + 6) (fun g => (((True ∧ zsh g (q + 1) = some (27, 4) ∧ ∀ i, i < 4 → zgr g (q + 1) i = some (q + 1 + 1 + i) ∧ zsh g (q + 1 + 1 + i) = some (20, 16)) ∧ zgr g q 0 = some (q + 1)) ∧ zsh g (q + 6) = some (20, 4)) ∧ zgr g q 1 = some (q + 6)) g g' → zsh g' q = some (2, 0) ∧ zgr g' q 1 = some (q + 6) ∧ zsh g' (q + 6) = some (20, 4) := fun h => ⟨h.2.2.1, h.2.2.2.2.2.2.2.2, h.2.2.2.2.2.2.2.1.2⟩
  refine w_rdR (get h4).1 (get h4).2.1 (w_one 1 h4 rfl (get h4).2.2 (by decide) (by decide) ⟨by omega, by omega⟩ rfl (fun g5 h5 => ?_))
  refine w_rdR (get h5).1 (get h5).2.1 (w_one 2 h5 rfl (get h5).2.2 (by decide) (by decide) ⟨by omega, by omega⟩ rfl (fun g6 h6 => ?_))
  refine w_rdR (get h6).1 (get h6).2.1 (w_one 3 h6 rfl (get h6).2.2 (by decide) (by decide) ⟨by omega, by omega⟩ rfl (fun g7 h7 => ?_))
  refine w_rdR (get h7).1 (get h7).2.1 (w_one 4 h7 rfl (get h7).2.2 (by decide) (by decide) ⟨by omega, by omega⟩ rfl (fun g8 h8 => ?_))
  rw [zW_some]
  have h9 := h8.seal (q + 100) ⟨by omega, by omega⟩ (by omega)
  refine h9.md.to (fun ⟨s0, hh⟩ => ?_) (fun ga gb e hp => ?_)
  · obtain ⟨⟨⟨⟨⟨-, s1, s2⟩, r1⟩, s3⟩, r2⟩, s4⟩ := hh
    exact ⟨s0, s1, s2, r1, s3, r2, s4⟩
  · obtain ⟨s0, s1, s2, r1, s3, r2, s4⟩ := hp
    exact ⟨(e _ (by omega) (by omega)).1.trans s0, (e _ (by omega) (by omega)).1.trans s1, fun i hi => ⟨((e _ (by omega) (by omega)).2 i).1.trans (s2 i hi).1, (e _ (by omega) (by omega)).1.trans (s2 i hi).2⟩, ((e _ (by omega) (by omega)).2 0).1.trans r1, (e _ (by omega) (by omega)).1.trans s3, ((e _ (by omega) (by omega)).2 1).1.trans r2, fun j hj => ((e _ (by omega) (by omega)).2 j).2.trans (s4 j hj)⟩
/-- a scene is made and put into its place of a row of scenes -/
theorem w_scene {x n J s L w u ci j k l : Nat} {Z : Nat → Prop} {P : ZS → Prop} {g0 g : ZS} {β : Type} {Q : β → Prop} {K : ZS → Option β} (n' : Nat) (h : zBd x n J s L w u ci Z P g0 g) (hn : n' = n + 32) (hr : ∀ g, P g → zgr g x j = some s ∧ zsh g s = some (26, k)) (hl : l < k) (hk31 : k < 2 ^ 31) (hL : L ≤ l) (hxs : x < s ∧ s < x + n) (hw : w < x + n ∨ x + n + 32 ≤ w ∧ u = 0) (hk : ∀ g', zBd x n' J s (l + 1) w u ci Z (fun g => (P g ∧ SL (zh g) (x + n)) ∧ zgr g s l = some (x + n)) g0 g' → zW (K g') Q) : zW ((zrdR g x ci j).bind fun v => (zalloc g (6, 0)).bind fun p => (f_X6_init p.1 p.2).bind fun g5 => (zaast 26 g5 v (nI l) p.1).bind K) Q := by
  refine w_rdR h.2.2.1 (hr g h.2.2.2.2.2.2.2).1 (w_nw h.1 (fun g1 f1 => ?_))
  dsimp only
  refine (X6_md h.1 f1).bind (fun g2 m2 => ?_)
  have h2 := h.sub n' f1 m2 hn (fun a _ _ z => z.elim) (Or.inl hxs.2) hw
  have hp := h2.2.2.2.2.2.2.2
  exact w_el (kd := 0) (nn := 0) h2 (hr g2 hp.1).2 hl hk31 hp.2.f.1 hL ⟨hxs.1, by omega⟩ hk
theorem X4_md {g0 g : ZS} {q : Nat} (hq : zsz g0 = q) (f : zFr g0 (4, 0) g) : zW (f_X4_init q g) (zMd q 386 (fun _ => False) (fun g => zsh g q = some (4, 0) ∧ zsh g (q + 1) = some (26, 12) ∧ zgr g q 0 = some (q + 1) ∧ ∀ i, i < 12 → SL (zh g) (q + 2 + 32 * i) ∧ zgr g (q + 1) i = some (q + 2 + 32 * i)) g) := by
  unfold f_X4_init
  have h0 := zBd.start (ci := 4) (s := q + 1) (L := 0) (w := q + 1000) (Z := fun _ => False) hq f
  refine w_al 2 h0 rfl (Or.inr rfl) (fun g1 h1 => ?_)
  refine w_wr h1 (by omega) (Or.inl (by omega)) (fun g2 h2 => ?_)
  refine w_scene (l := 0) (k := 12) 34 h2 rfl (fun g h => ⟨h.2, h.1.2⟩) (by omega) (by decide) (by omega) ⟨by omega, by omega⟩ (Or.inr ⟨by omega, rfl⟩) (fun g3 h3 => ?_)
  refine w_scene (l := 1) (k := 12) 66 h3 rfl (fun g h => ⟨h.1.1.2, h.1.1.1.2⟩) (by omega) (by decide) (by omega) ⟨by omega, by omega⟩ (Or.inr ⟨by omega, rfl⟩) (fun g4 h4 => ?_)
  refine w_scene (l := 2) (k := 12) 98 h4 rfl (fun g h => ⟨h.1.1.1.1.2, h.1.1.1.1.1.2⟩) (by omega) (by decide) (by omega) ⟨by omega, by omega⟩ (Or.inr ⟨by omega, rfl⟩) (fun g5 h5 => ?_)
  refine w_scene (l := 3) (k := 12) 130 h5 rfl (fun g h => ⟨h.1.1.1.1.1.1.2, h.1.1.1.1.1.1.1.2⟩) (by omega) (by decide) (by omega) ⟨by omega, by omega⟩ (Or.inr ⟨by omega, rfl⟩) (fun g6 h6 => ?_)
  refine w_scene (l := 4) (k := 12) 162 h6 rfl (fun g h => ⟨h.1.1.1.1.1.1.1.1.2, h.1.1.1.1.1.1.1.1.1.2⟩) (by omega) (by decide) (by omega) ⟨by omega, by omega⟩ (Or.inr ⟨by omega, rfl⟩) (fun g7 h7 => ?_)
  refine w_scene (l := 5) (k := 12) 194 h7 rfl (fun g h => ⟨h.1.1.1.1.1.1.1.1.1.1.2, h.1.1.1.1.1.1.1.1.1.1.1.2⟩) (by omega) (by decide) (by omega) ⟨by omega, by omega⟩ (Or.inr ⟨by omega, rfl⟩) (fun g8 h8 => ?_)
  refine w_scene (l := 6) (k := 12) 226 h8 rfl (fun g h => ⟨h.1.1.1.1.1.1.1.1.1.1.1.1.2, h.1.1.1.1.1.1.1.1.1.1.1.1.1.2⟩) (by omega) (by decide) (by omega) ⟨by omega, by omega⟩ (Or.inr ⟨by omega, rfl⟩) (fun g9 h9 => ?_)
  refine w_scene (l := 7) (k := 12) 258 h9 rfl (fun g h => ⟨h.1.1.1.1.1.1.1.1.1.1.1.1.1.1.2, h.1.1.1.1.1.1.1.1.1.1.1.1.1.1.1.2⟩) (by omega) (by decide) (by omega) ⟨by omega, by omega⟩ (Or.inr ⟨by omega, rfl⟩) (fun g10 h10 => ?_)
  refine w_scene (l := 8) (k := 12) 290 h10 rfl (fun g h => ⟨h.1.1.1.1.1.1.1.1.1.1.1.1.1.1.1.1.2, h.1.1.1.1.1.1.1.1.1.1.1.1.1.1.1.1.1.2⟩) (by omega) (by decide) (by omega) ⟨by omega, by omega⟩ (Or.inr ⟨by omega, rfl⟩) (fun g11 h11 => ?_)
  refine w_scene (l := 9) (k := 12) 322 h11 rfl (fun g h => ⟨h.1.1.1.1.1.1.1.1.1.1.1.1.1.1.1.1.1.1.2, h.1.1.1.1.1.1.1.1.1.1.1.1.1.1.1.1.1.1.1.2⟩) (by omega) (by decide) (by omega) ⟨by omega, by omega⟩ (Or.inr ⟨by omega, rfl⟩) (fun g12 h12 => ?_)
  refine w_scene (l := 10) (k := 12) 354 h12 rfl (fun g h => ⟨h.1.1.1.1.1.1.1.1.1.1.1.1.1.1.1.1.1.1.1.1.2, h.1.1.1.1.1.1.1.1.1.1.1.1.1.1.1.1.1.1.1.1.1.2⟩) (by omega) (by decide) (by omega) ⟨by omega, by omega⟩ (Or.inr ⟨by omega, rfl⟩) (fun g13 h13 => ?_)
  refine w_scene (l := 11) (k := 12) 386 h13 rfl (fun g h => ⟨h.1.1.1.1.1.1.1.1.1.1.1.1.1.1.1.1.1.1.1.1.1.1.2, h.1.1.1.1.1.1.1.1.1.1.1.1.1.1.1.1.1.1.1.1.1.1.1.2⟩) (by omega) (by decide) (by omega) ⟨by omega, by omega⟩ (Or.inr ⟨by omega, rfl⟩) (fun g14 h14 => ?_)
  rw [zW_some]
  refine h14.md.to (fun ⟨s0, hh⟩ => ?_) (fun ga gb e hp => ?_)
  · obtain ⟨⟨⟨⟨⟨⟨⟨⟨⟨⟨⟨⟨⟨⟨⟨⟨⟨⟨⟨⟨⟨⟨⟨⟨⟨⟨-, s1⟩, r1⟩, a0⟩, b0⟩, a1⟩, b1⟩, a2⟩, b2⟩, a3⟩, b3⟩, a4⟩, b4⟩, a5⟩, b5⟩, a6⟩, b6⟩, a7⟩, b7⟩, a8⟩, b8⟩, a9⟩, b9⟩, a10⟩, b10⟩, a11⟩, b11⟩ := hh
    refine ⟨s0, s1, r1, fun i hi => ?_⟩
    have hc : i = 0 ∨ i = 1 ∨ i = 2 ∨ i = 3 ∨ i = 4 ∨ i = 5 ∨ i = 6 ∨ i = 7 ∨ i = 8 ∨ i = 9 ∨ i = 10 ∨ i = 11 := by omega
    rcases hc with rfl | rfl | rfl | rfl | rfl | rfl | rfl | rfl | rfl | rfl | rfl | rfl
    · exact ⟨a0, b0⟩
    · exact ⟨a1, b1⟩
    · exact ⟨a2, b2⟩
    · exact ⟨a3, b3⟩
    · exact ⟨a4, b4⟩
    · exact ⟨a5, b5⟩
    · exact ⟨a6, b6⟩
    · exact ⟨a7, b7⟩
    · exact ⟨a8, b8⟩
    · exact ⟨a9, b9⟩
    · exact ⟨a10, b10⟩
    · exact ⟨a11, b11⟩
  · obtain ⟨s0, s1, r1, s2⟩ := hp
    exact ⟨(e _ (by omega) (by omega)).1.trans s0, (e _ (by omega) (by omega)).1.trans s1, ((e _ (by omega) (by omega)).2 0).1.trans r1, fun i hi => ⟨(s2 i hi).1.inn (fun a y z => (e a (by omega) (by omega)).1) (fun a j y z => ((e a (by omega) (by omega)).2 j).1), ((e _ (by omega) (by omega)).2 i).1.trans (s2 i hi).2⟩⟩
