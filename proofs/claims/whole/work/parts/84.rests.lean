/-! ===== rests ===== -/
def shI (x y : Nat) (v : Int32) : Int32 := (if x + y = 0 then nI 10 else nI (20 * x / (x + y))) - v * nI x
theorem e_share {x y : Nat} {v : Int32} (hx : x < 10) (hy : y < 10) : f_X11_share (nI x) (nI y) v = some (shI x y v) := by
  unfold f_X11_share f_X11_share_19 shI
  rw [nI_add]
  by_cases e : x + y = 0
  · rw [if_pos (show nI (x + y) ≤ 0 from nI_le (b := 0) (by omega) (by omega)), if_pos e]; rfl
  · rw [if_neg (show ¬ nI (x + y) ≤ 0 from nI_ge (show 0 < x + y by omega) (by omega)), if_neg (nI_ne0 (by omega) (by omega)), if_neg e, c_20, nI_mul, nI_div (by omega) (by omega)]
theorem e_gets {x y : Nat} {v : Int32} (hx : x < 10) (hy : y < 10) : f_X12_gets (nI x) (nI y) v = some (shI x y v) := by
  unfold f_X12_gets f_X12_gets_19 shI
  rw [nI_add]
  by_cases e : x + y = 0
  · rw [if_pos (show nI (x + y) = 0 by rw [e]; rfl), if_pos e]; rfl
  · rw [if_neg (nI_ne0 (by omega) (by omega)), if_neg (nI_ne0 (by omega) (by omega)), if_neg e, c_20, nI_mul, nI_div (by omega) (by omega)]
def bsP (x y : Nat) (v : Int32) (i : Nat) : Bool := decide (shI x y v < shI i y v)
def bsI (x y : Nat) (v : Int32) : Int32 := if zleast (bsP x y v) 10 0 < 10 then 0 else 1
section RE1
variable {N : Nat}
theorem e_best11 {x y : Nat} {v : Int32} (hN : 10000 ≤ N) (hx : x < 10) (hy : y < 10) : f_X11_isBest N (nI x) (nI y) v = some (bsI x y v) := by
  unfold f_X11_isBest bsI
  rw [e_share hx hy, Option.bind_some]
  refine loopL (body := fun s => f_X11_isBest_10 N (nI y) v (shI x y v) s) (bsP x y v) (fun _ => 0) 1 10 (fun i hi => ?_) ?_ (by omega)
  · show f_X11_isBest_10 N (nI y) v (shI x y v) (nI i) = _
    unfold f_X11_isBest_10 bsP
    rw [c_10, if_neg (nI_ge hi (by omega)), e_share hi hy, Option.bind_some]
    by_cases e : shI x y v < shI i y v
    · rw [if_neg (Int32.not_le.mpr e), decide_eq_true e]; rfl
    · rw [if_pos (Int32.not_lt.mp e), decide_eq_false e, c_1, nI_add]; rfl
  · show f_X11_isBest_10 N (nI y) v (shI x y v) (nI 10) = _
    unfold f_X11_isBest_10
    rw [c_10, if_pos (nI_le (Nat.le_refl _) (by omega))]; rfl
theorem e_best12 {x y : Nat} {v : Int32} (hN : 10000 ≤ N) (hx : x < 10) (hy : y < 10) : f_X12_isBest N (nI x) (nI y) v = some (bsI x y v) := by
  unfold f_X12_isBest bsI
  refine loopL (body := fun s => f_X12_isBest_2 N (nI x) (nI y) v s) (bsP x y v) (fun _ => 0) 1 10 (fun i hi => ?_) ?_ (by omega)
  · show f_X12_isBest_2 N (nI x) (nI y) v (nI i) = _
    unfold f_X12_isBest_2 bsP
    rw [c_9, if_neg (nI_nlt (by omega) (by omega)), e_gets hi hy, Option.bind_some, e_gets hx hy, Option.bind_some]
    by_cases e : shI x y v < shI i y v
    · rw [if_neg (Int32.not_le.mpr e), decide_eq_true e]; rfl
    · rw [if_pos (Int32.not_lt.mp e), decide_eq_false e, c_1, nI_add]; rfl
  · show f_X12_isBest_2 N (nI x) (nI y) v (nI 10) = _
    unfold f_X12_isBest_2
    rw [c_9, if_pos (nI_lt (by omega) (by omega))]; rfl
def rsF (v : Int32) (k : Nat) (s : Nat × List Int64) : Nat × List Int64 := if bsI (k / 10) (k % 10) v = 0 then s else if bsI (k % 10) (k / 10) v = 0 then s else (s.1 + 1, if s.1 = 0 then [wL (k / 10), wL (k % 10)] else s.2)
def rsS (v : Int32) (k : Nat) : Nat × List Int64 := zfold (rsF v) k (0, [])
theorem rsS_s {v : Int32} {i j : Nat} : rsS v (10 * i + (j + 1)) = rsF v (10 * i + j) (rsS v (10 * i + j)) := rfl
theorem rsF_n {v : Int32} {i j : Nat} {s : Nat × List Int64} (hj : j < 10) (h : bsI i j v = 0 ∨ bsI j i v = 0) : rsF v (10 * i + j) s = s := by
  unfold rsF
  rw [show (10 * i + j) / 10 = i by omega, show (10 * i + j) % 10 = j by omega]
  rcases h with h | h
  · rw [if_pos h]
  · rw [if_pos h]; split <;> rfl
theorem rsF_y {v : Int32} {i j : Nat} {s : Nat × List Int64} (hj : j < 10) (h1 : ¬ bsI i j v = 0) (h2 : ¬ bsI j i v = 0) : rsF v (10 * i + j) s = (s.1 + 1, if s.1 = 0 then [wL i, wL j] else s.2) := by
  unfold rsF
  rw [show (10 * i + j) / 10 = i by omega, show (10 * i + j) % 10 = j by omega, if_neg h1, if_neg h2]
theorem rs_inv {v : Int32} : ∀ k, (rsS v k).1 ≤ k ∧ (rsS v k).2.length ≤ 8 ∧ ((rsS v k).1 = 0 → (rsS v k).2 = [])
  | 0 => ⟨Nat.le_refl _, by show ([] : List Int64).length ≤ 8; simp, fun _ => rfl⟩
  | k + 1 => by
    obtain ⟨h1, h2, h3⟩ := rs_inv (v := v) k
    show (rsF v k (rsS v k)).1 ≤ k + 1 ∧ (rsF v k (rsS v k)).2.length ≤ 8 ∧ ((rsF v k (rsS v k)).1 = 0 → (rsF v k (rsS v k)).2 = [])
    unfold rsF
    split
    · exact ⟨by omega, h2, h3⟩
    · split
      · exact ⟨by omega, h2, h3⟩
      · refine ⟨by show _ + 1 ≤ _; omega, ?_, fun h => absurd h (by show _ + 1 ≠ 0; omega)⟩
        dsimp only
        split
        · simp
        · exact h2
theorem k_rests (hN : 10000 ≤ N) (v : Int32) : Call (fun x g => f_X11_rests N x v g) (fun m g => f_X12_rests N m v g) := call_q (fun x m c g A hC hA hc => by
  cases hv : rb v 0 (9 + 1) with
  | false =>
    refine ⟨-1, aR A, hA.2.2.2.2.1, ?_, fun g' hR => ?_⟩
    · unfold QC f_X11_rests f_X11_rests_10
      rw [c_0, c_9, rngB (by omega) (by omega), hv, if_neg Bool.false_ne_true, zW_some]
      exact ⟨rfl, zJ.rfl, hC.2⟩
    · unfold QF f_X12_rests
      refine r_start hR hA (fun g1 J0 hR1 _ => ?_)
      rw [c_9, e_inz (by omega), Option.bind_some, if_pos (bI_eq hv), zW_some]
      exact ⟨rfl, J0, hR1.2⟩
  | true =>
    refine ⟨nI (rsS v 100).1, (rsS v 100).2, (rs_inv 100).2.1, ?_, fun g' hR => ?_⟩
    · unfold QC f_X11_rests f_X11_rests_10
      rw [c_0, c_9, rngB (by omega) (by omega), hv, if_pos rfl]
      refine w_rdR hC.1.1.s0 hC.1.1.r0_1 ?_
      rw [p_wrI hC.1.1.s3, Option.bind_some]
      have J0 : zJ (SR (x + 3) (x + 4)) g (zsetI g (x + 3) 1 (nI 0)) := zJ.setI (Or.inl ⟨rfl, rfl⟩)
      refine zW_for (fun i (s : Int32 × Int32 × ZS) => s.1 = nI (rsS v (10 * i)).1 ∧ s.2.1 = nI i ∧ zJ (SR (x + 3) (x + 4)) g s.2.2 ∧ XR s.2.2 (x + 3) (x + 4) (rsS v (10 * i)).2) 10 (fun i s hi hs => ?_) (fun s hs => ?_) (by omega) (Nat.zero_le _) ⟨rfl, rfl, J0, XR.zero⟩
      · obtain ⟨y1, y2, g2⟩ := s
        obtain ⟨h1, h2, h3, h4⟩ := hs
        dsimp only at h1 h2 h3 h4
        subst h1 h2
        show zW (f_X11_rests_24 N x v (nI (rsS v (10 * i)).1) (nI i) g2) _
        unfold f_X11_rests_24
        rw [c_10, if_neg (nI_ge hi (by omega))]
        refine zW_for (fun j (s : Int32 × Int32 × ZS) => s.1 = nI (rsS v (10 * i + j)).1 ∧ s.2.1 = nI j ∧ zJ (SR (x + 3) (x + 4)) g s.2.2 ∧ XR s.2.2 (x + 3) (x + 4) (rsS v (10 * i + j)).2) 10 (fun j s hj hs => ?_) (fun s hs => ?_) (by omega) (Nat.zero_le _) ⟨rfl, rfl, h3, h4⟩
        · obtain ⟨y1, y2, g3⟩ := s
          obtain ⟨h1, h2, h3, h4⟩ := hs
          dsimp only at h1 h2 h3 h4
          subst h1 h2
          have C3 := hC.1.keep hA h3 (fun a j z => by omega)
          obtain ⟨b1, b2, b3⟩ := rs_inv (v := v) (10 * i + j)
          show zW (f_X11_rests_33 N x v (nI (rsS v (10 * i + j)).1) (nI i) (nI j) g3) _
          unfold f_X11_rests_33 f_X11_rests_76 f_X11_rests_79
          rw [c_10, if_neg (nI_ge hj (by omega)), e_best11 hN hi hj, Option.bind_some]
          by_cases e1 : bsI i j v = 0
          · rw [if_pos e1, zW_some, zI_inl, rsS_s, rsF_n hj (Or.inl e1), c_1, nI_add]
            exact ⟨rfl, rfl, h3, h4⟩
          · rw [if_neg e1, e_best11 hN hj hi, Option.bind_some]
            by_cases e2 : bsI j i v = 0
            · rw [if_pos e2, zW_some, zI_inl, rsS_s, rsF_n hj (Or.inr e2), c_1, nI_add]
              exact ⟨rfl, rfl, h3, h4⟩
            · rw [if_neg e2]
              by_cases e3 : (rsS v (10 * i + j)).1 = 0
              · rw [if_pos (show nI _ = 0 by rw [e3]; rfl)]
                refine c_pair C3 hA (fun g4 J4 X4 C4 => ?_)
                rw [zW_some, zI_inl, rsS_s, rsF_y hj e1 e2, c_1, nI_add, nI_add, if_pos e3]
                exact ⟨rfl, rfl, h3.trans J4, X4⟩
              · rw [if_neg (nI_ne0 (by omega) (by omega)), zW_some, zI_inl, rsS_s, rsF_y hj e1 e2, c_1, nI_add, nI_add, if_neg e3]
                exact ⟨rfl, rfl, h3, h4⟩
        · obtain ⟨y1, y2, g3⟩ := s
          obtain ⟨h1, h2, h3, h4⟩ := hs
          dsimp only at h1 h2 h3 h4
          subst h1 h2
          show zW (f_X11_rests_33 N x v (nI (rsS v (10 * i + 10)).1) (nI i) (nI 10) g3) _
          unfold f_X11_rests_33
          rw [c_10, if_pos (nI_le (Nat.le_refl _) (by omega)), Option.map_some, zW_some, zI_inr, zI_inl, c_1, nI_add, show 10 * (i + 1) = 10 * i + 10 by omega]
          exact ⟨rfl, rfl, h3, h4⟩
      · obtain ⟨y1, y2, g2⟩ := s
        obtain ⟨h1, h2, h3, h4⟩ := hs
        dsimp only at h1 h2 h3 h4
        subst h1 h2
        show zW (f_X11_rests_24 N x v (nI (rsS v (10 * 10)).1) (nI 10) g2) _
        unfold f_X11_rests_24
        rw [c_10, if_pos (nI_le (Nat.le_refl _) (by omega)), Option.map_some, zW_some, zI_inr]
        exact ⟨rfl, h3.mono (fun a j z => by omega), h4⟩
    · unfold QF f_X12_rests
      refine r_start hR hA (fun g1 J0 hR1 _ => ?_)
      rw [c_9, e_inz (by omega), Option.bind_some, if_neg (bI_ne hv), p_wrI hR1.1.1.s0, Option.bind_some]
      have J1 : zM m (ScM m) g' (zsetI g1 m 9 0) := J0.setI' (Or.inl ⟨rfl, by omega⟩)
      have R1 : RJ m (zsetI g1 m 9 0) A := hR1.1.keep hA ((zJ.setI (S := ScM m) (Or.inl ⟨rfl, by omega⟩)).toM) (fun a j z => z)
      refine zW_for (fun i (s : Int32 × Int32 × ZS) => s.1 = nI (rsS v (10 * i)).1 ∧ s.2.1 = nI i ∧ zM m (ScM m) g' s.2.2 ∧ RJ m s.2.2 A ∧ RW s.2.2 m (rsS v (10 * i)).2) 10 (fun i s hi hs => ?_) (fun s hs => ?_) (by omega) (Nat.zero_le _) ⟨rfl, rfl, J1, R1, RW.zero⟩
      · obtain ⟨y1, y2, g2⟩ := s
        obtain ⟨h1, h2, h3, h4, h5⟩ := hs
        dsimp only at h1 h2 h3 h4 h5
        subst h1 h2
        show zW (f_X12_rests_26 N m v (nI (rsS v (10 * i)).1) (nI i) g2) _
        unfold f_X12_rests_26
        rw [c_9, if_neg (nI_nlt (by omega) (by omega))]
        refine zW_for (fun j (s : Int32 × Int32 × ZS) => s.1 = nI (rsS v (10 * i + j)).1 ∧ s.2.1 = nI j ∧ zM m (ScM m) g' s.2.2 ∧ RJ m s.2.2 A ∧ RW s.2.2 m (rsS v (10 * i + j)).2) 10 (fun j s hj hs => ?_) (fun s hs => ?_) (by omega) (Nat.zero_le _) ⟨rfl, rfl, h3, h4, h5⟩
        · obtain ⟨y1, y2, g3⟩ := s
          obtain ⟨h1, h2, h3, h4, h5⟩ := hs
          dsimp only at h1 h2 h3 h4 h5
          subst h1 h2
          obtain ⟨b1, b2, b3⟩ := rs_inv (v := v) (10 * i + j)
          show zW (f_X12_rests_35 N m v (nI (rsS v (10 * i + j)).1) (nI i) (nI j) g3) _
          unfold f_X12_rests_35 f_X12_rests_82 f_X12_rests_85
          rw [c_9, if_neg (nI_nlt (by omega) (by omega)), e_best12 hN hi hj, Option.bind_some]
          by_cases e1 : bsI i j v = 0
          · rw [if_pos e1, zW_some, zI_inl, rsS_s, rsF_n hj (Or.inl e1), c_1, nI_add]
            exact ⟨rfl, rfl, h3, h4, h5⟩
          · rw [if_neg e1, e_best12 hN hj hi, Option.bind_some]
            by_cases e2 : bsI j i v = 0
            · rw [if_pos e2, zW_some, zI_inl, rsS_s, rsF_n hj (Or.inr e2), c_1, nI_add]
              exact ⟨rfl, rfl, h3, h4, h5⟩
            · rw [if_neg e2]
              by_cases e3 : (rsS v (10 * i + j)).1 = 0
              · rw [if_pos (show nI _ = 0 by rw [e3]; rfl)]
                rw [b3 e3] at h5
                refine w_vs h4.1.s0 ((s_tell h4.1 h5 (by simp)).bind (fun g4 h6 => ?_))
                have R4 := h4.keep hA (h6.1.toM (m := m)) (fun a j z => by omega)
                refine w_vs R4.1.s0 ((s_tell R4.1 h6.2 (by simp)).bind (fun g5 h7 => ?_))
                have R5 := R4.keep hA (h7.1.toM (m := m)) (fun a j z => by omega)
                rw [zW_some, zI_inl, rsS_s, rsF_y hj e1 e2, c_1, nI_add, nI_add, if_pos e3]
                exact ⟨rfl, rfl, h3.trans (((h6.1.trans h7.1).toM (m := m)).mono (fun a j z => by omega)), R5, h7.2⟩
              · rw [if_neg (nI_ne0 (by omega) (by omega)), zW_some, zI_inl, rsS_s, rsF_y hj e1 e2, c_1, nI_add, nI_add, if_neg e3]
                exact ⟨rfl, rfl, h3, h4, h5⟩
        · obtain ⟨y1, y2, g3⟩ := s
          obtain ⟨h1, h2, h3, h4, h5⟩ := hs
          dsimp only at h1 h2 h3 h4 h5
          subst h1 h2
          show zW (f_X12_rests_35 N m v (nI (rsS v (10 * i + 10)).1) (nI i) (nI 10) g3) _
          unfold f_X12_rests_35
          rw [c_9, if_pos (nI_lt (by omega) (by omega)), Option.map_some, zW_some, zI_inr, zI_inl, c_1, nI_add, show 10 * (i + 1) = 10 * i + 10 by omega]
          exact ⟨rfl, rfl, h3, h4, h5⟩
      · obtain ⟨y1, y2, g2⟩ := s
        obtain ⟨h1, h2, h3, h4, h5⟩ := hs
        dsimp only at h1 h2 h3 h4 h5
        subst h1 h2
        show zW (f_X12_rests_26 N m v (nI (rsS v (10 * 10)).1) (nI 10) g2) _
        unfold f_X12_rests_26
        rw [c_9, if_pos (nI_lt (by omega) (by omega)), Option.map_some, zW_some, zI_inr]
        exact ⟨rfl, h3, h5⟩)
end RE1
