/-! ===== what may throw: parrot, word, row ===== -/
def CallO {α : Type} (fC : Nat → ZS → Option (Option α × ZS)) (fR : Nat → ZS → Option (α × ZS)) : Prop := ∀ (x m c : Nat) (g : ZS) (A : ZA), CI x g A → AI A c → c < 512 → ∃ a : Option α, zW (fC x g) (fun o => o.1 = a ∧ zX x (x + 581) g o.2 ∧ CI x o.2 A) ∧ ∀ g', RI m g' A → zW (fR m g') (fun o => zgi o.2 m 10 = nI (if a.isSome then 0 else 1) ∧ (∀ v, a = some v → o.1 = v) ∧ zX m (m + 33) g' o.2 ∧ RI m o.2 A)
theorem call_o {α : Type} {fC : Nat → ZS → Option (Option α × ZS)} {fR : Nat → ZS → Option (α × ZS)} (h : ∀ (x m c : Nat) (g : ZS) (A : ZA), CI x g A → AI A c → c < 512 → ∃ a : Option α, zW (fC x g) (fun o => o.1 = a ∧ zX x (x + 581) g o.2 ∧ CI x o.2 A) ∧ ∀ g', RI m g' A → zW (fR m g') (fun o => zgi o.2 m 10 = nI (if a.isSome then 0 else 1) ∧ (∀ v, a = some v → o.1 = v) ∧ zX m (m + 33) g' o.2 ∧ RI m o.2 A)) : CallO fC fR := h
theorem zc_no {v : Int32} {n k : Nat} (h : rb v 0 n = false) (hk : k < n) (hn : n < 1000000) : ¬ v = nI k := fun e => by rw [e, rb_nI hk hn] at h; cases h
section TH
variable {N x m c : Nat} {g g1 g2 g3 g' : ZS} {A : ZA}
theorem c_none {α : Type} (hC : CI x g A) : zW (some ((none : Option α), zthrown g)) (fun o => o.1 = none ∧ zX x (x + 581) g o.2 ∧ CI x o.2 A) := zW_some.mpr ⟨rfl, ⟨Nat.le_succ _, fun a _ _ => ⟨rfl, fun j => ⟨rfl, rfl, rfl⟩⟩⟩, hC⟩
theorem c_some {α : Type} {v : α} (hC : CI x g A) : zW (some (some v, g)) (fun o => o.1 = some v ∧ zX x (x + 581) g o.2 ∧ CI x o.2 A) := zW_some.mpr ⟨rfl, zX.rfl, hC⟩
theorem r_some {α : Type} {v : α} (J0 : zM m (ScM m) g' g1) (hR1 : RI m g1 A) (h0 : zgi g1 m 10 = nI 0) : zW (some (v, g1)) (fun o => zgi o.2 m 10 = nI (if (some v).isSome then 0 else 1) ∧ (∀ w, some v = some w → o.1 = w) ∧ zX m (m + 33) g' o.2 ∧ RI m o.2 A) := zW_some.mpr ⟨h0, fun w e => Option.some.inj e, J0.toX (fun a j z => scm_in z) (by omega), hR1⟩
theorem r_lost {α : Type} {k : Int32 × ZS → Option (α × ZS)} {y : α} (hk : ∀ g, k (0, g) = some (y, g)) (J0 : zM m (ScM m) g' g1) (hR1 : RI m g1 A) (hA : AI A c) : zW (zvs g1 m 12 <| (f_X12_lost m g1).bind k) (fun o => zgi o.2 m 10 = nI (if (none : Option α).isSome then 0 else 1) ∧ (∀ w, none = some w → o.1 = w) ∧ zX m (m + 33) g' o.2 ∧ RI m o.2 A) := by
  unfold f_X12_lost
  refine w_vs hR1.1.1.s0 ?_
  rw [c_1, p_wrI hR1.1.1.s0, Option.bind_some, Option.bind_some, hk, zW_some]
  have J : zJ (fun a j => a = m ∧ j = 10) g1 (zsetI g1 m 10 (nI 1)) := zJ.setI ⟨rfl, rfl⟩
  exact ⟨by rw [gi_sI, if_pos ⟨rfl, rfl⟩]; rfl, fun w e => (by cases e), (J0.toX (fun a j z => scm_in z) (by omega)).trans (J.toX (fun a j z => by omega)), hR1.1.keep hA J.toM (fun a j z => by omega), hR1.2.keepM (J.toM (m := m)) (by omega) (fun j => by omega)⟩
theorem k_row (v : Int32) : CallO (fun x g => f_X11_row x v g) (fun m g => f_X12_row m v g) := call_o (fun x m c g A hC hA hc => by
  have l8 := hA.2.2.2.2.1
  obtain ⟨t1, t2, t3⟩ := id hC.2
  have hL := hC.1.1
  cases hv : rb v 0 (aR A).length with
  | true =>
    obtain ⟨j, -, hj, rfl⟩ := rb_t hv (by omega)
    refine ⟨some ((aR A).getD j 0), ?_, fun g' hR => ?_⟩
    · unfold f_X11_row
      rw [c_0, if_neg (show ¬ nI j < nI 0 from nI_pos (by omega))]
      refine w_rdR hL.s0 hL.r0_1 (w_rdI hL.s3 t1 ?_)
      rw [if_pos (nI_lt hj (by omega))]
      refine w_rdR hL.s0 hL.r0_1 (w_rdR hL.s3 hL.r3_0 ?_)
      rw [a24_8 hL.s4 (by omega), Option.bind_some, t3 j hj]
      exact c_some hC
    · unfold f_X12_row f_X12_row_33
      refine r_start hR hA (fun g1 J0 hR1 h10 => ?_)
      obtain ⟨w1, w2, w3⟩ := id hR1.2
      refine w_rdI hR1.1.1.s0 w1 ?_
      rw [c_1, nI_sub (by omega), e_inz (by omega), Option.bind_some, show (aR A).length - 1 + 1 = (aR A).length by omega, if_neg (bI_ne hv)]
      refine w_rdR hR1.1.1.s0 hR1.1.1.r8 ?_
      rw [a24_16 hR1.1.1.s7 (by omega), Option.bind_some, w3 j hj]
      exact r_some J0 hR1 h10
  | false =>
    refine ⟨none, ?_, fun g' hR => ?_⟩
    · unfold f_X11_row f_X11_row_15
      by_cases h : v < 0
      · rw [if_pos h]; exact c_none hC
      · rw [if_neg h]
        refine w_rdR hL.s0 hL.r0_1 (w_rdI hL.s3 t1 ?_)
        rcases rb_f hv (by omega) (by omega) with h' | h'
        · exact absurd h' h
        · rw [if_neg (Int32.not_lt.mpr h')]; exact c_none hC
    · unfold f_X12_row f_X12_row_33
      refine r_start hR hA (fun g1 J0 hR1 h10 => ?_)
      obtain ⟨w1, w2, w3⟩ := id hR1.2
      refine w_rdI hR1.1.1.s0 w1 ?_
      have hin : f_X12_in v (0 : Int32) (nI (aR A).length - (1 : Int32)) = some (bI false) := by
        by_cases e : (aR A).length = 0
        · rw [e]
          unfold f_X12_in f_X12_in_14
          by_cases h : v < 0
          · rw [if_pos h]; rfl
          · rw [if_neg h, if_pos (Int32.lt_of_lt_of_le (show nI 0 - (1 : Int32) < 0 by decide) (Int32.not_lt.mp h))]; rfl
        · rw [c_1, nI_sub (by omega), e_inz (by omega), show (aR A).length - 1 + 1 = (aR A).length by omega, hv]
      rw [hin, Option.bind_some, if_pos (bI_eq rfl)]
      exact r_lost (y := (0 : Int32).toInt64) (fun g => rfl) J0 hR1 hA)
theorem k_parrot (hN : 10000 ≤ N) (v u : Int32) : CallO (fun x g => f_X11_parrot N x v u g) (fun m g => f_X12_parrot N m v u g) := call_o (fun x m c g A hC hA hc => by
  have n6 := hA.1.1
  have hL := hC.1.1
  cases hv : rb v 0 (an A) with
  | false =>
    refine ⟨none, ?_, fun g' hR => ?_⟩
    · unfold f_X11_parrot
      refine w_vs hL.s0 (w_eq (e_ip11 hC.1 hA) ?_)
      rw [if_pos (bI_eq hv)]; exact c_none hC
    · unfold f_X12_parrot f_X12_parrot_22
      refine r_start hR hA (fun g1 J0 hR1 h10 => ?_)
      refine w_vs hR1.1.1.s0 (w_eq (e_ip hR1.1 hA) ?_)
      rw [if_pos (bI_eq hv)]
      exact r_lost (y := (0 : Int32)) (fun g => rfl) J0 hR1 hA
  | true =>
    obtain ⟨p, -, hp, rfl⟩ := rb_t hv (by omega)
    obtain ⟨b1, b2, b3, b4, b5, b6, b7⟩ := c_bird hC.1 hA hp
    have hc1 := b4.2.1
    have runC : ∀ Z : Option Int32 × ZS → Prop, zW (zcase u [((0 : Int32), (zrdI g (x + 23 + 2 + 5 * p) 0 4).bind fun v5 => some (some v5, g)), ((1 : Int32), (zrdI g (x + 23 + 2 + 5 * p) 0 5).bind fun v6 => some (some v6, g)), ((2 : Int32), (zrdI g (x + 23 + 2 + 5 * p) 0 6).bind fun v7 => if v7 = 0 then f_X11_parrot_90 N (0 : Int32) g else f_X11_parrot_90 N (1 : Int32) g), ((3 : Int32), (zrdI g (x + 23 + 2 + 5 * p) 0 7).bind fun v8 => some (some v8, g)), ((4 : Int32), zvs g (x + 23 + 2 + 5 * p) 0 <| (f_X0_known N (x + 23 + 2 + 5 * p) g).bind fun v9 => some (some v9, g)), ((5 : Int32), (zrdI g (x + 23 + 2 + 5 * p) 0 8).bind fun v10 => some (some v10, g))] (some (none, zthrown g))) Z → zW (f_X11_parrot N x (nI p) u g) Z := by
      intro Z hZ
      unfold f_X11_parrot
      refine w_vs hL.s0 (w_eq (e_ip11 hC.1 hA) ?_)
      rw [if_neg (bI_ne hv)]
      refine w_rdR hL.s0 hL.r0_6 (w_rdR hL.SL23.f.1 hL.SL23.f.2.2.1 ?_)
      rw [a25_6 hL.SL23.f.2.1 (by omega), b1, Option.bind_some]
      exact hZ
    cases hu : rb u 0 (5 + 1) with
    | false =>
      refine ⟨none, runC _ ?_, fun g' hR => ?_⟩
      · simp only [zcase]
        rw [if_neg (show ¬ u = 0 from zc_no hu (show 0 < 5 + 1 by omega) (by omega)), if_neg (show ¬ u = 1 from zc_no hu (show 1 < 5 + 1 by omega) (by omega)), if_neg (show ¬ u = 2 from zc_no hu (show 2 < 5 + 1 by omega) (by omega)), if_neg (show ¬ u = 3 from zc_no hu (show 3 < 5 + 1 by omega) (by omega)), if_neg (show ¬ u = 4 from zc_no hu (show 4 < 5 + 1 by omega) (by omega)), if_neg (show ¬ u = 5 from zc_no hu (show 5 < 5 + 1 by omega) (by omega))]
        exact c_none hC
      · unfold f_X12_parrot f_X12_parrot_22
        refine r_start hR hA (fun g1 J0 hR1 h10 => ?_)
        refine w_vs hR1.1.1.s0 (w_eq (e_ip hR1.1 hA) ?_)
        rw [if_neg (bI_ne hv), show f_X12_in u (0 : Int32) (5 : Int32) = some (bI (rb u 0 (5 + 1))) from e_inz (hi := 5) (by omega), Option.bind_some, if_pos (bI_eq hu)]
        exact r_lost (y := (0 : Int32)) (fun g => rfl) J0 hR1 hA
    | true =>
      obtain ⟨k, -, hk, rfl⟩ := rb_t hu (by omega)
      have fin : ∀ a : Int32, zW (f_X11_parrot N x (nI p) (nI k) g) (fun o => o.1 = some a ∧ zX x (x + 581) g o.2 ∧ CI x o.2 A) → (∀ g1, RI m g1 A → ∃ t, (zcase (nI k) [((0 : Int32), (zrdR g1 m 12 0).bind fun v4 => (f_X12_of (nI p) (0 : Int32)).bind fun v5 => (zald 20 g1 v4 v5).bind fun v6 => some (v6, g1)), ((1 : Int32), (zrdR g1 m 12 2).bind fun v7 => (zald 20 g1 v7 (nI p)).bind fun v8 => some (v8, g1)), ((2 : Int32), (zrdR g1 m 12 0).bind fun v9 => (f_X12_of (nI p) (1 : Int32)).bind fun v10 => (zald 20 g1 v9 v10).bind fun v11 => some (v11, g1)), ((3 : Int32), (zrdR g1 m 12 0).bind fun v12 => (f_X12_of (nI p) (2 : Int32)).bind fun v13 => (zald 20 g1 v12 v13).bind fun v14 => some (v14, g1)), ((4 : Int32), (zrdR g1 m 12 0).bind fun v15 => (f_X12_heardBits N v15 (nI p) g1).bind fun v16 => some (v16, g1))] ((zrdR g1 m 12 0).bind fun v17 => (f_X12_of (nI p) (3 : Int32)).bind fun v18 => (zald 20 g1 v17 v18).bind fun v19 => some (v19, g1))) = t ∧ t = some (a, g1)) → ∃ a : Option Int32, zW (f_X11_parrot N x (nI p) (nI k) g) (fun o => o.1 = a ∧ zX x (x + 581) g o.2 ∧ CI x o.2 A) ∧ ∀ g', RI m g' A → zW (f_X12_parrot N m (nI p) (nI k) g') (fun o => zgi o.2 m 10 = nI (if a.isSome then 0 else 1) ∧ (∀ v, a = some v → o.1 = v) ∧ zX m (m + 33) g' o.2 ∧ RI m o.2 A) := by
        intro a h1 h2
        refine ⟨some a, h1, fun g' hR => ?_⟩
        unfold f_X12_parrot
        refine r_start hR hA (fun g1 J0 hR1 h10 => ?_)
        refine w_vs hR1.1.1.s0 (w_eq (e_ip hR1.1 hA) ?_)
        rw [if_neg (bI_ne hv), show f_X12_in (nI k) (0 : Int32) (5 : Int32) = some (bI (rb (nI k) 0 (5 + 1))) from e_inz (hi := 5) (by omega), Option.bind_some, if_neg (bI_ne hu)]
        obtain ⟨t, h3, h4⟩ := h2 g1 hR1
        rw [h3, h4]
        exact r_some J0 hR1 h10
      have rd : ∀ g1, RI m g1 A → ∀ j v, j < 36 → zgi g1 (m + 1) (36 * p + j) = v → ((zrdR g1 m 12 0).bind fun v4 => (f_X12_of (nI p) (nI j)).bind fun v5 => (zald 20 g1 v4 v5).bind fun v6 => some (v6, g1)) = some (v, g1) := fun g1 hR1 j v hj e => by
        unfold f_X12_of
        rw [p_rdR hR1.1.1.s0, hR1.1.1.r0, Option.bind_some, Option.bind_some, c_36, nI_mul, nI_add, a20_217 hR1.1.1.s1 (by omega), e, Option.bind_some]
      have cc : k = 0 ∨ k = 1 ∨ k = 2 ∨ k = 3 ∨ k = 4 ∨ k = 5 := by omega
      rcases cc with rfl | rfl | rfl | rfl | rfl | rfl
      · refine fin (nI (bh (aB A p))) (runC _ ?_) (fun g1 hR1 => ⟨_, rfl, ?_⟩)
        · simp only [zcase]
          rw [if_pos (show nI 0 = 0 from rfl)]
          refine w_rdI b2.f.1 b3.1 ?_
          exact c_some hC
        · simp only [zcase]
          rw [if_pos (show nI 0 = 0 from rfl)]
          exact rd g1 hR1 0 _ (by omega) (hR1.1.2.2.2.2.2.2.1.2.2.2 p hp).1
      · refine fin (nI (ame A p)) (runC _ ?_) (fun g1 hR1 => ⟨_, rfl, ?_⟩)
        · simp only [zcase]
          rw [if_neg (show ¬ nI 1 = 0 by decide), if_pos (show nI 1 = 1 from rfl)]
          refine w_rdI b2.f.1 b5 ?_
          exact c_some hC
        · simp only [zcase]
          rw [if_neg (show ¬ nI 1 = 0 by decide), if_pos (show nI 1 = 1 from rfl), p_rdR hR1.1.1.s0, hR1.1.1.r2, Option.bind_some, a20_6 hR1.1.1.s2 (by omega), hR1.1.2.2.2.2.2.2.1.2.1 p hp, Option.bind_some]
      · refine fin (nI (bc (aB A p))) (runC _ ?_) (fun g1 hR1 => ⟨_, rfl, ?_⟩)
        · simp only [zcase]
          rw [if_neg (show ¬ nI 2 = 0 by decide), if_neg (show ¬ nI 2 = 1 by decide), if_pos (show nI 2 = 2 from rfl)]
          refine w_rdI b2.f.1 b3.2.1 ?_
          unfold f_X11_parrot_90
          by_cases e : bc (aB A p) = 0
          · rw [e, if_pos (show nI 0 = 0 from rfl)]; exact c_some hC
          · rw [show bc (aB A p) = 1 by omega, if_neg (show ¬ nI 1 = 0 by decide)]; exact c_some hC
        · simp only [zcase]
          rw [if_neg (show ¬ nI 2 = 0 by decide), if_neg (show ¬ nI 2 = 1 by decide), if_pos (show nI 2 = 2 from rfl)]
          exact rd g1 hR1 1 _ (by omega) (hR1.1.2.2.2.2.2.2.1.2.2.2 p hp).2.1
      · refine fin (nI (bn (aB A p))) (runC _ ?_) (fun g1 hR1 => ⟨_, rfl, ?_⟩)
        · simp only [zcase]
          rw [if_neg (show ¬ nI 3 = 0 by decide), if_neg (show ¬ nI 3 = 1 by decide), if_neg (show ¬ nI 3 = 2 by decide), if_pos (show nI 3 = 3 from rfl)]
          refine w_rdI b2.f.1 b3.2.2.1 ?_
          exact c_some hC
        · simp only [zcase]
          rw [if_neg (show ¬ nI 3 = 0 by decide), if_neg (show ¬ nI 3 = 1 by decide), if_neg (show ¬ nI 3 = 2 by decide), if_pos (show nI 3 = 3 from rfl)]
          exact rd g1 hR1 2 _ (by omega) (hR1.1.2.2.2.2.2.2.1.2.2.2 p hp).2.2.1
      · refine fin (knB (bO (aB A p)) 8) (runC _ ?_) (fun g1 hR1 => ⟨_, rfl, ?_⟩)
        · simp only [zcase]
          rw [if_neg (show ¬ nI 4 = 0 by decide), if_neg (show ¬ nI 4 = 1 by decide), if_neg (show ¬ nI 4 = 2 by decide), if_neg (show ¬ nI 4 = 3 by decide), if_pos (show nI 4 = 4 from rfl)]
          refine w_vs b2.f.1 (w_eq (e_known hN b2 b3 b4) ?_)
          exact c_some hC
        · simp only [zcase]
          rw [if_neg (show ¬ nI 4 = 0 by decide), if_neg (show ¬ nI 4 = 1 by decide), if_neg (show ¬ nI 4 = 2 by decide), if_neg (show ¬ nI 4 = 3 by decide), if_pos (show nI 4 = 4 from rfl), p_rdR hR1.1.1.s0, hR1.1.1.r0, Option.bind_some, e_heardBits hN hR1.1.1.s1 (by omega) (hR1.1.2.2.2.2.2.2.1.2.2.2 p hp) b4, Option.bind_some]
      · refine fin (nI (bo (aB A p))) (runC _ ?_) (fun g1 hR1 => ⟨_, rfl, ?_⟩)
        · simp only [zcase]
          rw [if_neg (show ¬ nI 5 = 0 by decide), if_neg (show ¬ nI 5 = 1 by decide), if_neg (show ¬ nI 5 = 2 by decide), if_neg (show ¬ nI 5 = 3 by decide), if_neg (show ¬ nI 5 = 4 by decide), if_pos (show nI 5 = 5 from rfl)]
          refine w_rdI b2.f.1 b3.2.2.2.1 ?_
          exact c_some hC
        · simp only [zcase]
          rw [if_neg (show ¬ nI 5 = 0 by decide), if_neg (show ¬ nI 5 = 1 by decide), if_neg (show ¬ nI 5 = 2 by decide), if_neg (show ¬ nI 5 = 3 by decide), if_neg (show ¬ nI 5 = 4 by decide)]
          exact rd g1 hR1 3 _ (by omega) (hR1.1.2.2.2.2.2.2.1.2.2.2 p hp).2.2.2.1)
end TH
