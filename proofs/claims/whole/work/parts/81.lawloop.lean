/-! ===== the law's loop, from the branches that are not proved yet ===== -/
def LB (N b L x : Nat) : Prop := ∀ (c : Nat) (g : ZS) (A : ZA), LI b L x c g A → 5 * c + 5 ≤ L → zW (f_L_law_323 N b x (x + 581) (x + 614) (nI (5 * c)) g) (LQ b L x c) ∧ zW (f_L_law_770 N b x (x + 581) (x + 614) (nI (5 * c)) g) (LQ b L x c) ∧ zW (f_L_law_1081 N b x (x + 581) (x + 614) (nI (5 * c)) g) (LQ b L x c) ∧ zW (f_L_law_1118 N b x (x + 581) (x + 614) (nI (5 * c)) g) (LQ b L x c) ∧ zW (f_L_law_1155 N b x (x + 581) (x + 614) (nI (5 * c)) g) (LQ b L x c) ∧ zW (f_L_law_1168 N b x (x + 581) (x + 614) (nI (5 * c)) g) (LQ b L x c) ∧ zW (f_L_law_1205 N b x (x + 581) (x + 614) (nI (5 * c)) g) (LQ b L x c) ∧ zW (f_L_law_1292 N b x (x + 581) (x + 614) (nI (5 * c)) g) (LQ b L x c) ∧ zW (f_L_law_1305 N b x (x + 581) (x + 614) (nI (5 * c)) g) (LQ b L x c) ∧ zW (f_L_law_1318 N b x (x + 581) (x + 614) (nI (5 * c)) g) (LQ b L x c) ∧ zW (f_L_law_1343 N b x (x + 581) (x + 614) (nI (5 * c)) g) (LQ b L x c) ∧ zW (f_L_law_1455 N b x (x + 581) (x + 614) (nI (5 * c)) g) (LQ b L x c) ∧ zW (f_L_law_1468 N b x (x + 581) (x + 614) (nI (5 * c)) g) (LQ b L x c) ∧ zW (f_L_law_1493 N b x (x + 581) (x + 614) (nI (5 * c)) g) (LQ b L x c) ∧ zW (f_L_law_1506 N b x (x + 581) (x + 614) (nI (5 * c)) g) (LQ b L x c)
theorem zc_cons {γ : Type} {Q : γ → Prop} {v k : Int32} {t d : Option γ} {cs : List (Int32 × Option γ)} (h1 : zW t Q) (h2 : zW (zcase v cs d) Q) : zW (zcase v ((k, t) :: cs) d) Q := by
  unfold zcase
  split
  · exact h1
  · exact h2
theorem p_len {g : ZS} {b L : Nat} (h : zsh g b = some (28, L)) : zlen g b 28 = some L := by
  unfold zlen
  rw [h, Option.bind_some, if_pos rfl]
theorem lt5 {L k : Nat} (hL : L ≤ 2560) (hk : k ≤ 2565) : (nI L - (5 : Int32) < nI k) ↔ L < k + 5 := by
  by_cases h : 5 ≤ L
  · rw [c_5, nI_sub h]
    constructor
    · intro h'
      by_cases e : L < k + 5
      · exact e
      · exact absurd h' (nI_nlt (by omega) (by omega))
    · intro h'; exact nI_lt (by omega) (by omega)
  · refine ⟨fun _ => by omega, fun _ => ?_⟩
    have : ∀ L, L < 5 → nI L - (5 : Int32) < nI 0 := by decide +kernel
    exact Int32.lt_of_lt_of_le (this L (by omega)) (nI_le (by omega) (by omega))
section LP
variable {N b L x c : Nat} {g : ZS} {A : ZA}
theorem l_step (hN : 10000 ≤ N) (hB : LB N b L x) (h : LI b L x c g A) (h5 : 5 * c + 5 ≤ L) : zW (f_L_law_23 N b x (x + 581) (x + 614) (nI (5 * c)) g) (LQ b L x c) := by
  have hL := h.2.2.1
  obtain ⟨b323, b770, b1081, b1118, b1155, b1168, b1205, b1292, b1305, b1318, b1343, b1455, b1468, b1493, b1506⟩ := hB c g A h h5
  unfold f_L_law_23
  refine l_cap (by omega) ?_
  rw [p_len h.1, Option.bind_some, show (L : Nat).toInt32 = nI L from rfl, if_neg (fun h' => by have := (lt5 hL (by omega)).mp h'; omega), p_ald h.1 (show 5 * c < L by omega) (by omega), Option.bind_some]
  refine zc_cons (l_248 hN h h5) ?_
  refine zc_cons (l_273 hN h h5) ?_
  refine zc_cons (l_298 hN h h5) ?_
  refine zc_cons b323 ?_
  refine zc_cons (l_336 hN h h5) ?_
  refine zc_cons (l_349 hN h h5) ?_
  refine zc_cons (l_362 hN h h5) ?_
  refine zc_cons (l_430 hN h h5) ?_
  refine zc_cons (l_510 h h5) ?_
  refine zc_cons (l_547 hN h h5) ?_
  refine zc_cons (l_608 hN h h5) ?_
  refine zc_cons (l_633 hN h h5) ?_
  refine zc_cons (l_670 hN h h5) ?_
  refine zc_cons (l_695 hN h h5) ?_
  refine zc_cons (l_732 hN h h5) ?_
  refine zc_cons (l_757 hN h h5) ?_
  refine zc_cons b770 ?_
  refine zc_cons (l_783 hN h h5) ?_
  refine zc_cons (l_796 hN h h5) ?_
  refine zc_cons (l_821 hN h h5) ?_
  refine zc_cons (l_858 hN h h5) ?_
  refine zc_cons (l_883 hN h h5) ?_
  refine zc_cons (l_896 hN h h5) ?_
  refine zc_cons (l_933 hN h h5) ?_
  refine zc_cons (l_958 hN h h5) ?_
  refine zc_cons (l_995 hN h h5) ?_
  refine zc_cons (l_1044 hN h h5) ?_
  refine zc_cons b1081 ?_
  refine zc_cons b1118 ?_
  refine zc_cons b1155 ?_
  refine zc_cons b1168 ?_
  refine zc_cons b1205 ?_
  refine zc_cons (l_1242 hN h h5) ?_
  refine zc_cons (l_1279 hN h h5) ?_
  refine zc_cons b1292 ?_
  refine zc_cons b1305 ?_
  refine zc_cons b1318 ?_
  refine zc_cons b1343 ?_
  refine zc_cons (l_1392 hN h h5) ?_
  refine zc_cons (l_1429 hN h h5) ?_
  refine zc_cons (l_1442 hN h h5) ?_
  refine zc_cons b1455 ?_
  refine zc_cons b1468 ?_
  refine zc_cons b1493 ?_
  refine zc_cons b1506 ?_
  refine zc_cons (l_1543 hN h h5) ?_
  refine zc_cons (l_1568 hN h h5) ?_
  refine zc_cons (l_1593 hN h h5) ?_
  refine zc_cons (l_1618 hN h h5) ?_
  have hc : AI A (c + 1) := h.2.2.2.2.2.2.2.mono (Nat.le_succ c)
  exact l_next ⟨h.1, h.2.1, hL, h.2.2.2.1, h.2.2.2.2.1, h.2.2.2.2.2.1, h.2.2.2.2.2.2.1, hc⟩ (by omega)
theorem l_stop (h : LI b L x c g A) (h5 : ¬ 5 * c + 5 ≤ L) (hc : 5 * c ≤ 2560) : zW (f_L_law_23 N b x (x + 581) (x + 614) (nI (5 * c)) g) (zI (fun _ => False) (fun (o : Int32 × ZS) => o.1 = 1)) := by
  have hL := h.2.2.1
  unfold f_L_law_23
  refine l_cap hc ?_
  rw [p_len h.1, Option.bind_some, show (L : Nat).toInt32 = nI L from rfl, if_pos ((lt5 hL (by omega)).mpr (by omega)), Option.map_some, zW_some, zI_inr]
/-- the loop of the law -/
theorem l_loop (hN : 10000 ≤ N) (hB : LB N b L x) (h : LI b L x 0 g A) : zW (zloop (fun s => f_L_law_23 N b x (x + 581) (x + 614) s.1 s.2) N ((0 : Int32), g)) (fun o => o.1 = 1) := by
  have hL := h.2.2.1
  refine zW_for (fun i (s : Int32 × ZS) => s.1 = nI (5 * i) ∧ ∃ A, LI b L x i s.2 A) (L / 5) (fun i s hi hs => ?_) (fun s hs => ?_) (by omega) (Nat.zero_le _) ⟨rfl, A, h⟩
  · obtain ⟨s1, g1⟩ := s
    obtain ⟨e, A1, h1⟩ := hs
    dsimp only at e h1
    subst e
    exact l_step hN hB h1 (by omega)
  · obtain ⟨s1, g1⟩ := s
    obtain ⟨e, A1, h1⟩ := hs
    dsimp only at e h1
    subst e
    exact l_stop h1 (by omega) (by omega)
end LP
