/-! ===== the law's branches whose call may throw ===== -/
theorem lg_self (v : Int64) : lg_cmp v v = 0 := by
  unfold lg_cmp
  rw [if_neg (show ¬ v > v from Int64.lt_irrefl), if_pos rfl]
section LT
variable {N b L x c : Nat} {g g' : ZS} {A : ZA}
theorem l_362 (hN : 10000 ≤ N) (h : LI b L x c g A) (h5 : 5 * c + 5 ≤ L) : zW (f_L_law_362 N b x (x + 581) (x + 614) (nI (5 * c)) g) (LQ b L x c) := by
  have hL := h.2.2.1
  unfold f_L_law_362
  refine l_cap (by omega) ?_
  rw [c_1, c_2]
  refine l_rd (k := 0) h.1 hL (by omega) ?_
  refine l_rd (k := 0) h.1 hL (by omega) ?_
  refine l_callO (fun v : Int32 => v.toInt64) (k_parrot hN (zgi g b (5 * c + 1)) (zgi g b (5 * c + 2))) h (by omega) (fun v g1 e => ?_) (fun g1 e => ?_) (fun a g2 e1 e2 hr => ?_)
  · unfold f_L_parrot
    rw [p_vs h.2.2.2.1.1.1.s0, e, Option.bind_some]
  · unfold f_L_parrot
    rw [p_vs h.2.2.2.1.1.1.s0, e, Option.bind_some]
  refine l_rd (k := 0) e1 hL (by omega) ?_
  refine l_rd (k := 0) e1 hL (by omega) ?_
  rw [e2, e2]
  refine hr _ _ (fun y g4 h4 h10 hv => ?_)
  have s0 := h4.2.2.2.2.1.1.1.s0
  have st : f_X12_thrown (x + 581) g4 = some (nI (if a.isSome then 0 else 1)) := by
    unfold f_X12_thrown
    rw [p_rdI s0, Option.bind_some, h10]
  refine w_vs s0 (w_eq st ?_)
  dsimp only
  rw [if_pos rfl]
  unfold f_L_law_427
  cases a with
  | none =>
    rw [if_neg (show ¬ nI (if (none : Option Int32).isSome then 0 else 1) = 0 by decide)]
    exact l_next h4 (by omega)
  | some v =>
    obtain ⟨q1, q2⟩ := hv v rfl
    rw [if_pos (show nI (if (some v).isSome then 0 else 1) = 0 from rfl), c_0, a24_1 h4.2.2.2.2.2.1 (by omega), Option.bind_some, q2, q1, lg_self, if_pos (show (0 : Int32) = nI 0 from rfl)]
    exact l_next h4 (by omega)
theorem l_430 (hN : 10000 ≤ N) (h : LI b L x c g A) (h5 : 5 * c + 5 ≤ L) : zW (f_L_law_430 N b x (x + 581) (x + 614) (nI (5 * c)) g) (LQ b L x c) := by
  have hL := h.2.2.1
  unfold f_L_law_430
  refine l_cap (by omega) ?_
  rw [c_1, c_2, c_3]
  refine l_rd (k := 0) h.1 hL (by omega) ?_
  refine l_rd (k := 0) h.1 hL (by omega) ?_
  refine l_rd (k := 0) h.1 hL (by omega) ?_
  refine l_callO (fun v : Int32 => v.toInt64) (k_word hN (zgi g b (5 * c + 1)) (zgi g b (5 * c + 2)) (zgi g b (5 * c + 3))) h (by omega) (fun v g1 e => ?_) (fun g1 e => ?_) (fun a g2 e1 e2 hr => ?_)
  · unfold f_L_word
    rw [p_vs h.2.2.2.1.1.1.s0, e, Option.bind_some]
  · unfold f_L_word
    rw [p_vs h.2.2.2.1.1.1.s0, e, Option.bind_some]
  refine l_rd (k := 0) e1 hL (by omega) ?_
  refine l_rd (k := 0) e1 hL (by omega) ?_
  refine l_rd (k := 0) e1 hL (by omega) ?_
  rw [e2, e2, e2]
  refine hr _ _ (fun y g4 h4 h10 hv => ?_)
  have s0 := h4.2.2.2.2.1.1.1.s0
  have st : f_X12_thrown (x + 581) g4 = some (nI (if a.isSome then 0 else 1)) := by
    unfold f_X12_thrown
    rw [p_rdI s0, Option.bind_some, h10]
  refine w_vs s0 (w_eq st ?_)
  dsimp only
  rw [if_pos rfl]
  unfold f_L_law_507
  cases a with
  | none =>
    rw [if_neg (show ¬ nI (if (none : Option Int32).isSome then 0 else 1) = 0 by decide)]
    exact l_next h4 (by omega)
  | some v =>
    obtain ⟨q1, q2⟩ := hv v rfl
    rw [if_pos (show nI (if (some v).isSome then 0 else 1) = 0 from rfl), c_0, a24_1 h4.2.2.2.2.2.1 (by omega), Option.bind_some, q2, q1, lg_self, if_pos (show (0 : Int32) = nI 0 from rfl)]
    exact l_next h4 (by omega)
theorem l_1618 (hN : 10000 ≤ N) (h : LI b L x c g A) (h5 : 5 * c + 5 ≤ L) : zW (f_L_law_1618 N b x (x + 581) (x + 614) (nI (5 * c)) g) (LQ b L x c) := by
  have hL := h.2.2.1
  unfold f_L_law_1618
  refine l_cap (by omega) ?_
  rw [c_1]
  refine l_rd (k := 0) h.1 hL (by omega) ?_
  refine l_callO (fun v : Int64 => v) (k_row (zgi g b (5 * c + 1))) h (by omega) (fun v g1 e => ?_) (fun g1 e => ?_) (fun a g2 e1 e2 hr => ?_)
  · unfold f_L_row
    rw [p_vs h.2.2.2.1.1.1.s0, e, Option.bind_some]
  · unfold f_L_row
    rw [p_vs h.2.2.2.1.1.1.s0, e, Option.bind_some]
  refine l_rd (k := 0) e1 hL (by omega) ?_
  rw [e2]
  refine hr _ _ (fun y g4 h4 h10 hv => ?_)
  have s0 := h4.2.2.2.2.1.1.1.s0
  have st : f_X12_thrown (x + 581) g4 = some (nI (if a.isSome then 0 else 1)) := by
    unfold f_X12_thrown
    rw [p_rdI s0, Option.bind_some, h10]
  refine w_vs s0 (w_eq st ?_)
  dsimp only
  rw [if_pos rfl]
  unfold f_L_law_1670
  cases a with
  | none =>
    rw [if_neg (show ¬ nI (if (none : Option Int64).isSome then 0 else 1) = 0 by decide)]
    exact l_next h4 (by omega)
  | some v =>
    obtain ⟨q1, q2⟩ := hv v rfl
    rw [if_pos (show nI (if (some v).isSome then 0 else 1) = 0 from rfl), c_0, a24_1 h4.2.2.2.2.2.1 (by omega), Option.bind_some, q2, q1, lg_self, if_pos (show (0 : Int32) = nI 0 from rfl)]
    exact l_next h4 (by omega)
end LT
