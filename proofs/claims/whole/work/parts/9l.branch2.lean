/-! ===== the last branches of the law ===== -/
section LB2
variable {N b L x c : Nat} {g : ZS} {A : ZA}
theorem l_callZ {α β : Type} {fC fR : Nat → ZS → Option (α × ZS)} {K : α × ZS → Option β} {Q : β → Prop} (hcall : CallZ fC fR) (h : LI b L x c g A) (h512 : c < 512) (hk : ∀ (a : α) (g2 : ZS), zsh g2 b = some (28, L) → (∀ j, zgi g2 b j = zgi g b j) → (∀ (K' : α × ZS → Option β) (Q' : β → Prop), (∀ g4 A', LI b L x (c + 1) g4 A' → zW (K' (a, g4)) Q') → zW (zvs g2 (x + 581) 12 <| (fR (x + 581) g2).bind K') Q') → zW (K (a, g2)) Q) : zW (zvs g x 11 <| (fC x g).bind K) Q := by
  obtain ⟨s1, s2, s3, hC, hR, s4, s5, hA⟩ := h
  obtain ⟨a, A', hA', h1, h2⟩ := hcall x (x + 581) c g A hC hA h512 (by omega)
  refine w_vs hC.1.1.s0 (zW.bind h1 (fun o ho => ?_))
  obtain ⟨y, g2⟩ := o
  obtain ⟨o1, Z2, C2⟩ := ho
  dsimp only at o1 Z2 C2
  subst o1
  have R2 : RI (x + 581) g2 A := hR.byX hA Z2 (by omega) (by omega)
  have b2 := Z2.2 b (by omega) (by omega)
  have o2 := Z2.2 (x + 614) (by omega) (by omega)
  have z2 := Z2.1
  refine hk y g2 (b2.1.trans s1) (fun j => (b2.2 j).1) (fun K' Q' hK' => ?_)
  refine w_vs R2.1.1.s0 (zW.bind (h2 g2 R2) (fun o ho => ?_))
  obtain ⟨y', g4⟩ := o
  obtain ⟨o1, Z4, R4⟩ := ho
  dsimp only at o1 Z4 R4
  subst o1
  have C4 : CI x g4 A' := C2.byX hA' Z4 (by omega) (by omega)
  have b4 := Z4.2 b (by omega) (by omega)
  have o4 := Z4.2 (x + 614) (by omega) (by omega)
  have z4 := Z4.1
  exact hK' g4 A' ⟨b4.1.trans (b2.1.trans s1), s2, s3, C4, R4, o4.1.trans (o2.1.trans s4), by omega, hA'⟩
theorem l_323 (hN : 10000 ≤ N) (h : LI b L x c g A) (h5 : 5 * c + 5 ≤ L) : zW (f_L_law_323 N b x (x + 581) (x + 614) (nI (5 * c)) g) (LQ b L x c) := by
  have hL := h.2.2.1
  unfold f_L_law_323
  refine l_cap (by omega) ?_
  refine l_call (k_parrots hN) h (by omega) (fun a g2 e1 e2 hr => ?_)
  refine hr _ _ (fun g4 A' h4 => ?_)
  rw [if_pos rfl]
  exact l_next h4 (by omega)
theorem l_770 (hN : 10000 ≤ N) (h : LI b L x c g A) (h5 : 5 * c + 5 ≤ L) : zW (f_L_law_770 N b x (x + 581) (x + 614) (nI (5 * c)) g) (LQ b L x c) := by
  have hL := h.2.2.1
  unfold f_L_law_770
  refine l_cap (by omega) ?_
  refine l_call (k_trial hN) h (by omega) (fun a g2 e1 e2 hr => ?_)
  refine hr _ _ (fun g4 A' h4 => ?_)
  rw [if_pos rfl]
  exact l_next h4 (by omega)
theorem l_1081 (hN : 10000 ≤ N) (h : LI b L x c g A) (h5 : 5 * c + 5 ≤ L) : zW (f_L_law_1081 N b x (x + 581) (x + 614) (nI (5 * c)) g) (LQ b L x c) := by
  have hL := h.2.2.1
  unfold f_L_law_1081
  refine l_cap (by omega) ?_
  rw [c_1, c_2]
  refine l_rd (k := 0) h.1 hL (by omega) ?_
  refine l_rd (k := 0) h.1 hL (by omega) ?_
  refine l_call (k_gain hN _ _) h (by omega) (fun a g2 e1 e2 hr => ?_)
  refine l_rd (k := 0) e1 hL (by omega) ?_
  refine l_rd (k := 0) e1 hL (by omega) ?_
  rw [e2, e2]
  refine hr _ _ (fun g4 A' h4 => ?_)
  rw [if_pos rfl]
  exact l_next h4 (by omega)
theorem l_1118 (hN : 10000 ≤ N) (h : LI b L x c g A) (h5 : 5 * c + 5 ≤ L) : zW (f_L_law_1118 N b x (x + 581) (x + 614) (nI (5 * c)) g) (LQ b L x c) := by
  have hL := h.2.2.1
  unfold f_L_law_1118
  refine l_cap (by omega) ?_
  rw [c_1, c_2]
  refine l_rd (k := 0) h.1 hL (by omega) ?_
  refine l_rd (k := 0) h.1 hL (by omega) ?_
  refine l_call (k_blend hN _ _) h (by omega) (fun a g2 e1 e2 hr => ?_)
  refine l_rd (k := 0) e1 hL (by omega) ?_
  refine l_rd (k := 0) e1 hL (by omega) ?_
  rw [e2, e2]
  refine hr _ _ (fun g4 A' h4 => ?_)
  rw [if_pos rfl]
  exact l_next h4 (by omega)
theorem l_1155 (hN : 10000 ≤ N) (h : LI b L x c g A) (h5 : 5 * c + 5 ≤ L) : zW (f_L_law_1155 N b x (x + 581) (x + 614) (nI (5 * c)) g) (LQ b L x c) := by
  have hL := h.2.2.1
  unfold f_L_law_1155
  refine l_cap (by omega) ?_
  refine l_call (k_source hN) h (by omega) (fun a g2 e1 e2 hr => ?_)
  refine hr _ _ (fun g4 A' h4 => ?_)
  rw [if_pos rfl]
  exact l_next h4 (by omega)
theorem l_1168 (hN : 10000 ≤ N) (h : LI b L x c g A) (h5 : 5 * c + 5 ≤ L) : zW (f_L_law_1168 N b x (x + 581) (x + 614) (nI (5 * c)) g) (LQ b L x c) := by
  have hL := h.2.2.1
  unfold f_L_law_1168
  refine l_cap (by omega) ?_
  rw [c_1, c_2]
  refine l_rd (k := 0) h.1 hL (by omega) ?_
  refine l_rd (k := 0) h.1 hL (by omega) ?_
  refine l_call (k_alike hN _ _) h (by omega) (fun a g2 e1 e2 hr => ?_)
  refine l_rd (k := 0) e1 hL (by omega) ?_
  refine l_rd (k := 0) e1 hL (by omega) ?_
  rw [e2, e2]
  refine hr _ _ (fun g4 A' h4 => ?_)
  rw [if_pos rfl]
  exact l_next h4 (by omega)
theorem l_1205 (hN : 10000 ≤ N) (h : LI b L x c g A) (h5 : 5 * c + 5 ≤ L) : zW (f_L_law_1205 N b x (x + 581) (x + 614) (nI (5 * c)) g) (LQ b L x c) := by
  have hL := h.2.2.1
  unfold f_L_law_1205
  refine l_cap (by omega) ?_
  rw [c_1, c_2]
  refine l_rd (k := 0) h.1 hL (by omega) ?_
  refine l_rd (k := 0) h.1 hL (by omega) ?_
  refine l_call (k_unlike hN _ _) h (by omega) (fun a g2 e1 e2 hr => ?_)
  refine l_rd (k := 0) e1 hL (by omega) ?_
  refine l_rd (k := 0) e1 hL (by omega) ?_
  rw [e2, e2]
  refine hr _ _ (fun g4 A' h4 => ?_)
  rw [if_pos rfl]
  exact l_next h4 (by omega)
theorem l_1292 (hN : 10000 ≤ N) (h : LI b L x c g A) (h5 : 5 * c + 5 ≤ L) : zW (f_L_law_1292 N b x (x + 581) (x + 614) (nI (5 * c)) g) (LQ b L x c) := by
  have hL := h.2.2.1
  unfold f_L_law_1292
  refine l_cap (by omega) ?_
  refine l_call (k_clash hN) h (by omega) (fun a g2 e1 e2 hr => ?_)
  refine hr _ _ (fun g4 A' h4 => ?_)
  rw [if_pos rfl]
  exact l_next h4 (by omega)
theorem l_1305 (hN : 10000 ≤ N) (h : LI b L x c g A) (h5 : 5 * c + 5 ≤ L) : zW (f_L_law_1305 N b x (x + 581) (x + 614) (nI (5 * c)) g) (LQ b L x c) := by
  have hL := h.2.2.1
  unfold f_L_law_1305
  refine l_cap (by omega) ?_
  refine l_call (k_drop hN) h (by omega) (fun a g2 e1 e2 hr => ?_)
  refine hr _ _ (fun g4 A' h4 => ?_)
  rw [if_pos rfl]
  exact l_next h4 (by omega)
theorem l_1318 (hN : 10000 ≤ N) (h : LI b L x c g A) (h5 : 5 * c + 5 ≤ L) : zW (f_L_law_1318 N b x (x + 581) (x + 614) (nI (5 * c)) g) (LQ b L x c) := by
  have hL := h.2.2.1
  unfold f_L_law_1318
  refine l_cap (by omega) ?_
  rw [c_1]
  refine l_rd (k := 0) h.1 hL (by omega) ?_
  refine l_call (k_counsels hN _) h (by omega) (fun a g2 e1 e2 hr => ?_)
  refine l_rd (k := 0) e1 hL (by omega) ?_
  rw [e2]
  refine hr _ _ (fun g4 A' h4 => ?_)
  rw [if_pos rfl]
  exact l_next h4 (by omega)
theorem l_1343 (hN : 10000 ≤ N) (h : LI b L x c g A) (h5 : 5 * c + 5 ≤ L) : zW (f_L_law_1343 N b x (x + 581) (x + 614) (nI (5 * c)) g) (LQ b L x c) := by
  have hL := h.2.2.1
  unfold f_L_law_1343
  refine l_cap (by omega) ?_
  rw [c_1, c_2, c_3]
  refine l_rd (k := 0) h.1 hL (by omega) ?_
  refine l_rd (k := 0) h.1 hL (by omega) ?_
  refine l_rd (k := 0) h.1 hL (by omega) ?_
  refine l_call (k_sure hN _ _ _) h (by omega) (fun a g2 e1 e2 hr => ?_)
  refine l_rd (k := 0) e1 hL (by omega) ?_
  refine l_rd (k := 0) e1 hL (by omega) ?_
  refine l_rd (k := 0) e1 hL (by omega) ?_
  rw [e2, e2, e2]
  refine hr _ _ (fun g4 A' h4 => ?_)
  rw [if_pos rfl]
  exact l_next h4 (by omega)
theorem l_1455 (hN : 10000 ≤ N) (h : LI b L x c g A) (h5 : 5 * c + 5 ≤ L) : zW (f_L_law_1455 N b x (x + 581) (x + 614) (nI (5 * c)) g) (LQ b L x c) := by
  have hL := h.2.2.1
  unfold f_L_law_1455
  refine l_cap (by omega) ?_
  refine l_call (k_ask hN) h (by omega) (fun a g2 e1 e2 hr => ?_)
  refine hr _ _ (fun g4 A' h4 => ?_)
  rw [if_pos rfl]
  exact l_next h4 (by omega)
theorem l_1468 (hN : 10000 ≤ N) (h : LI b L x c g A) (h5 : 5 * c + 5 ≤ L) : zW (f_L_law_1468 N b x (x + 581) (x + 614) (nI (5 * c)) g) (LQ b L x c) := by
  have hL := h.2.2.1
  unfold f_L_law_1468
  refine l_cap (by omega) ?_
  rw [c_1]
  refine l_rd (k := 0) h.1 hL (by omega) ?_
  refine l_call (k_rests hN _) h (by omega) (fun a g2 e1 e2 hr => ?_)
  refine l_rd (k := 0) e1 hL (by omega) ?_
  rw [e2]
  refine hr _ _ (fun g4 A' h4 => ?_)
  rw [if_pos rfl]
  exact l_next h4 (by omega)
theorem l_1493 (hN : 10000 ≤ N) (h : LI b L x c g A) (h5 : 5 * c + 5 ≤ L) : zW (f_L_law_1493 N b x (x + 581) (x + 614) (nI (5 * c)) g) (LQ b L x c) := by
  have hL := h.2.2.1
  unfold f_L_law_1493
  refine l_cap (by omega) ?_
  refine l_call (k_law hN) h (by omega) (fun a g2 e1 e2 hr => ?_)
  refine hr _ _ (fun g4 A' h4 => ?_)
  rw [if_pos rfl]
  exact l_next h4 (by omega)
theorem l_1506 (hN : 10000 ≤ N) (h : LI b L x c g A) (h5 : 5 * c + 5 ≤ L) : zW (f_L_law_1506 N b x (x + 581) (x + 614) (nI (5 * c)) g) (LQ b L x c) := by
  have hL := h.2.2.1
  unfold f_L_law_1506
  refine l_cap (by omega) ?_
  rw [c_1, c_2]
  refine l_rd (k := 0) h.1 hL (by omega) ?_
  refine l_rd (k := 0) h.1 hL (by omega) ?_
  refine l_callZ (k_years hN _ _) h (by omega) (fun a g2 e1 e2 hr => ?_)
  refine l_rd (k := 0) e1 hL (by omega) ?_
  refine l_rd (k := 0) e1 hL (by omega) ?_
  rw [e2, e2]
  refine hr _ _ (fun g4 A' h4 => ?_)
  rw [if_pos rfl]
  exact l_next h4 (by omega)
theorem lb_all (hN : 10000 ≤ N) : LB N b L x := fun c g A h h5 => ⟨l_323 hN h h5, l_770 hN h h5, l_1081 hN h h5, l_1118 hN h h5, l_1155 hN h h5, l_1168 hN h h5, l_1205 hN h h5, l_1292 hN h h5, l_1305 hN h h5, l_1318 hN h h5, l_1343 hN h h5, l_1455 hN h h5, l_1468 hN h h5, l_1493 hN h h5, l_1506 hN h h5⟩
end LB2
