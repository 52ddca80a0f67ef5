/-! ===== the branches of the law ===== -/
section LB
variable {N b L x c : Nat} {g : ZS} {A : ZA}
theorem l_273 (hN : 10000 ≤ N) (h : LI b L x c g A) (h5 : 5 * c + 5 ≤ L) : zW (f_L_law_273 N b x (x + 581) (x + 614) (nI (5 * c)) g) (LQ b L x c) := by
  have hL := h.2.2.1
  unfold f_L_law_273
  refine l_cap (by omega) ?_
  rw [c_1]
  refine l_rd (k := 0) h.1 hL (by omega) ?_
  refine l_call (k_end _) h (by omega) (fun a g2 e1 e2 hr => ?_)
  refine l_rd (k := 0) e1 hL (by omega) ?_
  rw [e2]
  refine hr _ _ (fun g4 A' h4 => ?_)
  rw [if_pos rfl]
  exact l_next h4 (by omega)
theorem l_298 (hN : 10000 ≤ N) (h : LI b L x c g A) (h5 : 5 * c + 5 ≤ L) : zW (f_L_law_298 N b x (x + 581) (x + 614) (nI (5 * c)) g) (LQ b L x c) := by
  have hL := h.2.2.1
  unfold f_L_law_298
  refine l_cap (by omega) ?_
  rw [c_1]
  refine l_rd (k := 0) h.1 hL (by omega) ?_
  refine l_call (k_house hN _) h (by omega) (fun a g2 e1 e2 hr => ?_)
  refine l_rd (k := 0) e1 hL (by omega) ?_
  rw [e2]
  refine hr _ _ (fun g4 A' h4 => ?_)
  rw [if_pos rfl]
  exact l_next h4 (by omega)
theorem l_336 (hN : 10000 ≤ N) (h : LI b L x c g A) (h5 : 5 * c + 5 ≤ L) : zW (f_L_law_336 N b x (x + 581) (x + 614) (nI (5 * c)) g) (LQ b L x c) := by
  have hL := h.2.2.1
  unfold f_L_law_336
  refine l_cap (by omega) ?_
  refine l_call (k_worths hN) h (by omega) (fun a g2 e1 e2 hr => ?_)
  refine hr _ _ (fun g4 A' h4 => ?_)
  rw [if_pos rfl]
  exact l_next h4 (by omega)
theorem l_349 (hN : 10000 ≤ N) (h : LI b L x c g A) (h5 : 5 * c + 5 ≤ L) : zW (f_L_law_349 N b x (x + 581) (x + 614) (nI (5 * c)) g) (LQ b L x c) := by
  have hL := h.2.2.1
  unfold f_L_law_349
  refine l_cap (by omega) ?_
  refine l_call (k_rule hN) h (by omega) (fun a g2 e1 e2 hr => ?_)
  refine hr _ _ (fun g4 A' h4 => ?_)
  rw [if_pos rfl]
  exact l_next h4 (by omega)
theorem l_547 (hN : 10000 ≤ N) (h : LI b L x c g A) (h5 : 5 * c + 5 ≤ L) : zW (f_L_law_547 N b x (x + 581) (x + 614) (nI (5 * c)) g) (LQ b L x c) := by
  have hL := h.2.2.1
  unfold f_L_law_547
  refine l_cap (by omega) ?_
  rw [c_1, c_2, c_3, c_4]
  refine l_rd (k := 0) h.1 hL (by omega) ?_
  refine l_rd (k := 0) h.1 hL (by omega) ?_
  refine l_rd (k := 0) h.1 hL (by omega) ?_
  refine l_rd (k := 0) h.1 hL (by omega) ?_
  refine l_call (k_sheet hN _ _ _ _) h (by omega) (fun a g2 e1 e2 hr => ?_)
  refine l_rd (k := 0) e1 hL (by omega) ?_
  refine l_rd (k := 0) e1 hL (by omega) ?_
  refine l_rd (k := 0) e1 hL (by omega) ?_
  refine l_rd (k := 0) e1 hL (by omega) ?_
  rw [e2, e2, e2, e2]
  refine hr _ _ (fun g4 A' h4 => ?_)
  rw [if_pos rfl]
  exact l_next h4 (by omega)
theorem l_608 (hN : 10000 ≤ N) (h : LI b L x c g A) (h5 : 5 * c + 5 ≤ L) : zW (f_L_law_608 N b x (x + 581) (x + 614) (nI (5 * c)) g) (LQ b L x c) := by
  have hL := h.2.2.1
  unfold f_L_law_608
  refine l_cap (by omega) ?_
  rw [c_1]
  refine l_rd (k := 0) h.1 hL (by omega) ?_
  refine l_call (k_days hN _) h (by omega) (fun a g2 e1 e2 hr => ?_)
  refine l_rd (k := 0) e1 hL (by omega) ?_
  rw [e2]
  refine hr _ _ (fun g4 A' h4 => ?_)
  rw [if_pos rfl]
  exact l_next h4 (by omega)
theorem l_633 (hN : 10000 ≤ N) (h : LI b L x c g A) (h5 : 5 * c + 5 ≤ L) : zW (f_L_law_633 N b x (x + 581) (x + 614) (nI (5 * c)) g) (LQ b L x c) := by
  have hL := h.2.2.1
  unfold f_L_law_633
  refine l_cap (by omega) ?_
  rw [c_1, c_2]
  refine l_rd (k := 0) h.1 hL (by omega) ?_
  refine l_rd (k := 0) h.1 hL (by omega) ?_
  refine l_call (k_move hN _ _) h (by omega) (fun a g2 e1 e2 hr => ?_)
  refine l_rd (k := 0) e1 hL (by omega) ?_
  refine l_rd (k := 0) e1 hL (by omega) ?_
  rw [e2, e2]
  refine hr _ _ (fun g4 A' h4 => ?_)
  rw [if_pos rfl]
  exact l_next h4 (by omega)
theorem l_670 (hN : 10000 ≤ N) (h : LI b L x c g A) (h5 : 5 * c + 5 ≤ L) : zW (f_L_law_670 N b x (x + 581) (x + 614) (nI (5 * c)) g) (LQ b L x c) := by
  have hL := h.2.2.1
  unfold f_L_law_670
  refine l_cap (by omega) ?_
  rw [c_1]
  refine l_rd (k := 0) h.1 hL (by omega) ?_
  refine l_call (k_cloth hN _) h (by omega) (fun a g2 e1 e2 hr => ?_)
  refine l_rd (k := 0) e1 hL (by omega) ?_
  rw [e2]
  refine hr _ _ (fun g4 A' h4 => ?_)
  rw [if_pos rfl]
  exact l_next h4 (by omega)
theorem l_695 (hN : 10000 ≤ N) (h : LI b L x c g A) (h5 : 5 * c + 5 ≤ L) : zW (f_L_law_695 N b x (x + 581) (x + 614) (nI (5 * c)) g) (LQ b L x c) := by
  have hL := h.2.2.1
  unfold f_L_law_695
  refine l_cap (by omega) ?_
  rw [c_1, c_2]
  refine l_rd (k := 0) h.1 hL (by omega) ?_
  refine l_rd (k := 0) h.1 hL (by omega) ?_
  refine l_call (k_teach hN _ _) h (by omega) (fun a g2 e1 e2 hr => ?_)
  refine l_rd (k := 0) e1 hL (by omega) ?_
  refine l_rd (k := 0) e1 hL (by omega) ?_
  rw [e2, e2]
  refine hr _ _ (fun g4 A' h4 => ?_)
  rw [if_pos rfl]
  exact l_next h4 (by omega)
theorem l_732 (hN : 10000 ≤ N) (h : LI b L x c g A) (h5 : 5 * c + 5 ≤ L) : zW (f_L_law_732 N b x (x + 581) (x + 614) (nI (5 * c)) g) (LQ b L x c) := by
  have hL := h.2.2.1
  unfold f_L_law_732
  refine l_cap (by omega) ?_
  rw [c_1]
  refine l_rd (k := 0) h.1 hL (by omega) ?_
  refine l_call (k_speak hN _) h (by omega) (fun a g2 e1 e2 hr => ?_)
  refine l_rd (k := 0) e1 hL (by omega) ?_
  rw [e2]
  refine hr _ _ (fun g4 A' h4 => ?_)
  rw [if_pos rfl]
  exact l_next h4 (by omega)
theorem l_757 (hN : 10000 ≤ N) (h : LI b L x c g A) (h5 : 5 * c + 5 ≤ L) : zW (f_L_law_757 N b x (x + 581) (x + 614) (nI (5 * c)) g) (LQ b L x c) := by
  have hL := h.2.2.1
  unfold f_L_law_757
  refine l_cap (by omega) ?_
  refine l_call (k_hush hN) h (by omega) (fun a g2 e1 e2 hr => ?_)
  refine hr _ _ (fun g4 A' h4 => ?_)
  rw [if_pos rfl]
  exact l_next h4 (by omega)
theorem l_783 (hN : 10000 ≤ N) (h : LI b L x c g A) (h5 : 5 * c + 5 ≤ L) : zW (f_L_law_783 N b x (x + 581) (x + 614) (nI (5 * c)) g) (LQ b L x c) := by
  have hL := h.2.2.1
  unfold f_L_law_783
  refine l_cap (by omega) ?_
  refine l_call (k_undo hN) h (by omega) (fun a g2 e1 e2 hr => ?_)
  refine hr _ _ (fun g4 A' h4 => ?_)
  rw [if_pos rfl]
  exact l_next h4 (by omega)
theorem l_796 (hN : 10000 ≤ N) (h : LI b L x c g A) (h5 : 5 * c + 5 ≤ L) : zW (f_L_law_796 N b x (x + 581) (x + 614) (nI (5 * c)) g) (LQ b L x c) := by
  have hL := h.2.2.1
  unfold f_L_law_796
  refine l_cap (by omega) ?_
  rw [c_1]
  refine l_rd (k := 0) h.1 hL (by omega) ?_
  refine l_call (k_says hN _) h (by omega) (fun a g2 e1 e2 hr => ?_)
  refine l_rd (k := 0) e1 hL (by omega) ?_
  rw [e2]
  refine hr _ _ (fun g4 A' h4 => ?_)
  rw [if_pos rfl]
  exact l_next h4 (by omega)
theorem l_821 (hN : 10000 ≤ N) (h : LI b L x c g A) (h5 : 5 * c + 5 ≤ L) : zW (f_L_law_821 N b x (x + 581) (x + 614) (nI (5 * c)) g) (LQ b L x c) := by
  have hL := h.2.2.1
  unfold f_L_law_821
  refine l_cap (by omega) ?_
  rw [c_1, c_2]
  refine l_rd (k := 0) h.1 hL (by omega) ?_
  refine l_rd (k := 0) h.1 hL (by omega) ?_
  refine l_call (k_place hN _ _) h (by omega) (fun a g2 e1 e2 hr => ?_)
  refine l_rd (k := 0) e1 hL (by omega) ?_
  refine l_rd (k := 0) e1 hL (by omega) ?_
  rw [e2, e2]
  refine hr _ _ (fun g4 A' h4 => ?_)
  rw [if_pos rfl]
  exact l_next h4 (by omega)
theorem l_858 (hN : 10000 ≤ N) (h : LI b L x c g A) (h5 : 5 * c + 5 ≤ L) : zW (f_L_law_858 N b x (x + 581) (x + 614) (nI (5 * c)) g) (LQ b L x c) := by
  have hL := h.2.2.1
  unfold f_L_law_858
  refine l_cap (by omega) ?_
  rw [c_1]
  refine l_rd (k := 0) h.1 hL (by omega) ?_
  refine l_call (k_soonest hN _) h (by omega) (fun a g2 e1 e2 hr => ?_)
  refine l_rd (k := 0) e1 hL (by omega) ?_
  rw [e2]
  refine hr _ _ (fun g4 A' h4 => ?_)
  rw [if_pos rfl]
  exact l_next h4 (by omega)
theorem l_883 (hN : 10000 ≤ N) (h : LI b L x c g A) (h5 : 5 * c + 5 ≤ L) : zW (f_L_law_883 N b x (x + 581) (x + 614) (nI (5 * c)) g) (LQ b L x c) := by
  have hL := h.2.2.1
  unfold f_L_law_883
  refine l_cap (by omega) ?_
  refine l_call (k_unsaid hN) h (by omega) (fun a g2 e1 e2 hr => ?_)
  refine hr _ _ (fun g4 A' h4 => ?_)
  rw [if_pos rfl]
  exact l_next h4 (by omega)
theorem l_896 (hN : 10000 ≤ N) (h : LI b L x c g A) (h5 : 5 * c + 5 ≤ L) : zW (f_L_law_896 N b x (x + 581) (x + 614) (nI (5 * c)) g) (LQ b L x c) := by
  have hL := h.2.2.1
  unfold f_L_law_896
  refine l_cap (by omega) ?_
  rw [c_1, c_2]
  refine l_rd (k := 0) h.1 hL (by omega) ?_
  refine l_rd (k := 0) h.1 hL (by omega) ?_
  refine l_call (k_later hN _ _) h (by omega) (fun a g2 e1 e2 hr => ?_)
  refine l_rd (k := 0) e1 hL (by omega) ?_
  refine l_rd (k := 0) e1 hL (by omega) ?_
  rw [e2, e2]
  refine hr _ _ (fun g4 A' h4 => ?_)
  rw [if_pos rfl]
  exact l_next h4 (by omega)
theorem l_933 (hN : 10000 ≤ N) (h : LI b L x c g A) (h5 : 5 * c + 5 ≤ L) : zW (f_L_law_933 N b x (x + 581) (x + 614) (nI (5 * c)) g) (LQ b L x c) := by
  have hL := h.2.2.1
  unfold f_L_law_933
  refine l_cap (by omega) ?_
  rw [c_1]
  refine l_rd (k := 0) h.1 hL (by omega) ?_
  refine l_call (k_alters hN _) h (by omega) (fun a g2 e1 e2 hr => ?_)
  refine l_rd (k := 0) e1 hL (by omega) ?_
  rw [e2]
  refine hr _ _ (fun g4 A' h4 => ?_)
  rw [if_pos rfl]
  exact l_next h4 (by omega)
theorem l_958 (hN : 10000 ≤ N) (h : LI b L x c g A) (h5 : 5 * c + 5 ≤ L) : zW (f_L_law_958 N b x (x + 581) (x + 614) (nI (5 * c)) g) (LQ b L x c) := by
  have hL := h.2.2.1
  unfold f_L_law_958
  refine l_cap (by omega) ?_
  rw [c_1, c_2]
  refine l_rd (k := 0) h.1 hL (by omega) ?_
  refine l_rd (k := 0) h.1 hL (by omega) ?_
  refine l_call (k_crackers hN _ _) h (by omega) (fun a g2 e1 e2 hr => ?_)
  refine l_rd (k := 0) e1 hL (by omega) ?_
  refine l_rd (k := 0) e1 hL (by omega) ?_
  rw [e2, e2]
  refine hr _ _ (fun g4 A' h4 => ?_)
  rw [if_pos rfl]
  exact l_next h4 (by omega)
theorem l_995 (hN : 10000 ≤ N) (h : LI b L x c g A) (h5 : 5 * c + 5 ≤ L) : zW (f_L_law_995 N b x (x + 581) (x + 614) (nI (5 * c)) g) (LQ b L x c) := by
  have hL := h.2.2.1
  unfold f_L_law_995
  refine l_cap (by omega) ?_
  rw [c_1, c_2, c_3]
  refine l_rd (k := 0) h.1 hL (by omega) ?_
  refine l_rd (k := 0) h.1 hL (by omega) ?_
  refine l_rd (k := 0) h.1 hL (by omega) ?_
  refine l_call (k_stay hN _ _ _) h (by omega) (fun a g2 e1 e2 hr => ?_)
  refine l_rd (k := 0) e1 hL (by omega) ?_
  refine l_rd (k := 0) e1 hL (by omega) ?_
  refine l_rd (k := 0) e1 hL (by omega) ?_
  rw [e2, e2, e2]
  refine hr _ _ (fun g4 A' h4 => ?_)
  rw [if_pos rfl]
  exact l_next h4 (by omega)
theorem l_1242 (hN : 10000 ≤ N) (h : LI b L x c g A) (h5 : 5 * c + 5 ≤ L) : zW (f_L_law_1242 N b x (x + 581) (x + 614) (nI (5 * c)) g) (LQ b L x c) := by
  have hL := h.2.2.1
  unfold f_L_law_1242
  refine l_cap (by omega) ?_
  rw [c_1, c_2]
  refine l_rd (k := 0) h.1 hL (by omega) ?_
  refine l_rd (k := 0) h.1 hL (by omega) ?_
  refine l_call (k_before _ _) h (by omega) (fun a g2 e1 e2 hr => ?_)
  refine l_rd (k := 0) e1 hL (by omega) ?_
  refine l_rd (k := 0) e1 hL (by omega) ?_
  rw [e2, e2]
  refine hr _ _ (fun g4 A' h4 => ?_)
  rw [if_pos rfl]
  exact l_next h4 (by omega)
theorem l_1279 (hN : 10000 ≤ N) (h : LI b L x c g A) (h5 : 5 * c + 5 ≤ L) : zW (f_L_law_1279 N b x (x + 581) (x + 614) (nI (5 * c)) g) (LQ b L x c) := by
  have hL := h.2.2.1
  unfold f_L_law_1279
  refine l_cap (by omega) ?_
  refine l_call (k_forget) h (by omega) (fun a g2 e1 e2 hr => ?_)
  refine hr _ _ (fun g4 A' h4 => ?_)
  rw [if_pos rfl]
  exact l_next h4 (by omega)
theorem l_1392 (hN : 10000 ≤ N) (h : LI b L x c g A) (h5 : 5 * c + 5 ≤ L) : zW (f_L_law_1392 N b x (x + 581) (x + 614) (nI (5 * c)) g) (LQ b L x c) := by
  have hL := h.2.2.1
  unfold f_L_law_1392
  refine l_cap (by omega) ?_
  rw [c_1, c_2]
  refine l_rd (k := 0) h.1 hL (by omega) ?_
  refine l_rd (k := 0) h.1 hL (by omega) ?_
  refine l_call (k_note _ _) h (by omega) (fun a g2 e1 e2 hr => ?_)
  refine l_rd (k := 0) e1 hL (by omega) ?_
  refine l_rd (k := 0) e1 hL (by omega) ?_
  rw [e2, e2]
  refine hr _ _ (fun g4 A' h4 => ?_)
  rw [if_pos rfl]
  exact l_next h4 (by omega)
theorem l_1429 (hN : 10000 ≤ N) (h : LI b L x c g A) (h5 : 5 * c + 5 ≤ L) : zW (f_L_law_1429 N b x (x + 581) (x + 614) (nI (5 * c)) g) (LQ b L x c) := by
  have hL := h.2.2.1
  unfold f_L_law_1429
  refine l_cap (by omega) ?_
  refine l_call (k_strike) h (by omega) (fun a g2 e1 e2 hr => ?_)
  refine hr _ _ (fun g4 A' h4 => ?_)
  rw [if_pos rfl]
  exact l_next h4 (by omega)
theorem l_1442 (hN : 10000 ≤ N) (h : LI b L x c g A) (h5 : 5 * c + 5 ≤ L) : zW (f_L_law_1442 N b x (x + 581) (x + 614) (nI (5 * c)) g) (LQ b L x c) := by
  have hL := h.2.2.1
  unfold f_L_law_1442
  refine l_cap (by omega) ?_
  refine l_call (k_fits hN) h (by omega) (fun a g2 e1 e2 hr => ?_)
  refine hr _ _ (fun g4 A' h4 => ?_)
  rw [if_pos rfl]
  exact l_next h4 (by omega)
theorem l_1543 (hN : 10000 ≤ N) (h : LI b L x c g A) (h5 : 5 * c + 5 ≤ L) : zW (f_L_law_1543 N b x (x + 581) (x + 614) (nI (5 * c)) g) (LQ b L x c) := by
  have hL := h.2.2.1
  unfold f_L_law_1543
  refine l_cap (by omega) ?_
  rw [c_1]
  refine l_rd (k := 0) h.1 hL (by omega) ?_
  refine l_call (k_keep hN _) h (by omega) (fun a g2 e1 e2 hr => ?_)
  refine l_rd (k := 0) e1 hL (by omega) ?_
  rw [e2]
  refine hr _ _ (fun g4 A' h4 => ?_)
  rw [if_pos rfl]
  exact l_next h4 (by omega)
theorem l_1568 (hN : 10000 ≤ N) (h : LI b L x c g A) (h5 : 5 * c + 5 ≤ L) : zW (f_L_law_1568 N b x (x + 581) (x + 614) (nI (5 * c)) g) (LQ b L x c) := by
  have hL := h.2.2.1
  unfold f_L_law_1568
  refine l_cap (by omega) ?_
  rw [c_1]
  refine l_rd (k := 0) h.1 hL (by omega) ?_
  refine l_call (k_again hN _) h (by omega) (fun a g2 e1 e2 hr => ?_)
  refine l_rd (k := 0) e1 hL (by omega) ?_
  rw [e2]
  refine hr _ _ (fun g4 A' h4 => ?_)
  rw [if_pos rfl]
  exact l_next h4 (by omega)
end LB
