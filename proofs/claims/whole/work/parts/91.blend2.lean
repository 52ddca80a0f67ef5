/-! ===== blend and source, the calls ===== -/
section BL2
variable {N : Nat}
theorem low_neg {K : Nat} (hK : K < 2 ^ 17) : (lowI K = -1) ↔ K = 0 := by
  by_cases e : K = 0
  · exact ⟨fun _ => e, fun _ => by rw [low_0 e]; rfl⟩
  · obtain ⟨i, hi, h1, -⟩ := low_p hK (by omega) (by omega)
    rw [h1]
    exact ⟨fun h => absurd h (fun h => (neg1_ne (by omega)).mp h), fun h => absurd h e⟩
theorem k_blend (hN : 10000 ≤ N) (v u : Int32) : Call (fun x g => f_X11_blend N x v u g) (fun m g => f_X12_blend N m v u g) := call_s (fun x m c g A hC hA hc => by
  have h80 := hA.2.2.1
  have h256 := hA.2.2.2.1
  have hL := hC.1.1
  by_cases hvu : rb v 0 4 = true ∧ rb u 0 4 = true ∧ v ≠ u
  · obtain ⟨hv, hu, hne⟩ := hvu
    obtain ⟨a, -, ha, rfl⟩ := rb_t hv (by omega)
    obtain ⟨b, -, hb, rfl⟩ := rb_t hu (by omega)
    obtain ⟨l, hl⟩ : ∃ l, l = aT A := ⟨_, rfl⟩
    rw [← hl] at h80 h256
    have hXT : XT g (x + 1) (x + 2) l := by rw [hl]; exact hC.1.2.1
    obtain ⟨q1, q2, q3, q4⟩ := tq_spec l
    have ebad := e_bad hN hXT
    rw [show zleast (tb l) l.length 0 = tq l from rfl] at ebad
    by_cases hbd : tq l < l.length
    · refine ⟨(-1 : Int32) - nI (tq l), sT A [], hA.noT.mono (Nat.le_succ c), ?_, fun g' hR => ?_⟩
      · unfold Cc f_X11_blend f_X11_blend_28 f_X11_blend_30
        rw [e_ih11, Option.bind_some, if_neg (bI_ne hv), e_ih11, Option.bind_some, if_neg (bI_ne hu), if_neg hne]
        have hr : f_X11_readBlend N x (nI a) (nI b) g = some ((-1 : Int32) - nI (tq l), g) := by
          unfold f_X11_readBlend
          rw [p_rdR hL.s0, hL.r0_0, Option.bind_some, p_vs hL.s1, ebad, if_pos hbd, Option.bind_some, if_neg (fun h' => (neg1_ne (by omega)).mp h')]
        refine w_vs hL.s0 (w_eq hr ?_)
        exact c_noText hC.1 hC.2 hA
      · unfold Rc f_X12_blend f_X12_blend_24
        refine r_start hR hA (fun g1 J0 hR1 _ => ?_)
        rw [e_ih12, Option.bind_some, if_neg (bI_ne hv), e_ih12, Option.bind_some, if_neg (bI_ne hu), if_neg hne]
        refine w_vs hR1.1.1.s0 ((r_readWords (l := l) (n0 := 0) hN hR1.1.1 (by rw [hl]; exact hR1.1.2.2.2.1) h256 (by omega)).bind (fun o ho => ?_))
        obtain ⟨J2, e7, w1, -⟩ := ho
        rw [w1 (Or.inr hbd), if_neg (m1_neg _ (by omega)), zW_some]
        exact ⟨rfl, (J0.toX (fun a j z => scm_in z) (by omega)).trans (J2.toX (fun a j z => by omega) (by omega)), r_noText hR1 hA J2 (fun a j z => z) e7⟩
    · have hql : tq l = l.length := by omega
      rw [hql] at q3
      have hK := blM_lt (H := aH A) (a := a) (b := b) (t := lw l) l.length
      have hM2 : 2 ^ (l.length + 1) ≤ 2 ^ 17 := p2_le (by omega)
      have hlow := low_neg (show blM (aH A) a b (lw l) l.length < 2 ^ 17 by omega)
      have efew := e_few hN hC.1 hA ha hb hXT (by omega) q3
      by_cases h0 : lowI (blM (aH A) a b (lw l) l.length) = -1
      · refine ⟨0, sT A [], hA.noT.mono (Nat.le_succ c), ?_, fun g' hR => ?_⟩
        · unfold Cc f_X11_blend f_X11_blend_28 f_X11_blend_30
          rw [e_ih11, Option.bind_some, if_neg (bI_ne hv), e_ih11, Option.bind_some, if_neg (bI_ne hu), if_neg hne]
          have hr : f_X11_readBlend N x (nI a) (nI b) g = some (0, g) := by
            unfold f_X11_readBlend
            rw [p_rdR hL.s0, hL.r0_0, Option.bind_some, p_vs hL.s1, ebad, if_neg hbd, Option.bind_some, if_pos (show -nI 1 = -1 from rfl), p_rdR hL.s0, hL.r0_2, Option.bind_some, Option.bind_some, p_vs (c_XHl hC.1).1, efew, Option.bind_some, if_pos h0]
          refine w_vs hL.s0 (w_eq hr ?_)
          exact c_noText hC.1 hC.2 hA
        · unfold Rc f_X12_blend f_X12_blend_24
          refine r_start hR hA (fun g1 J0 hR1 _ => ?_)
          rw [e_ih12, Option.bind_some, if_neg (bI_ne hv), e_ih12, Option.bind_some, if_neg (bI_ne hu), if_neg hne]
          refine w_vs hR1.1.1.s0 ((r_readWords (l := l) (n0 := 0) hN hR1.1.1 (by rw [hl]; exact hR1.1.2.2.2.1) h256 (by omega)).bind (fun o ho => ?_))
          obtain ⟨J2, e7, -, w2⟩ := ho
          obtain ⟨w3, w4⟩ := w2 (by omega)
          have R2 : RI m o.2 (sT A []) := r_noText hR1 hA J2 (fun a j z => z) e7
          rw [w3, if_pos (show (0 : Int32) ≤ nI l.length from nI_le (a := 0) (by omega) (by omega))]
          refine w_vs R2.1.1.s0 ((r_blendOf hN R2.1 hA.noT ha hb w4 (by omega) q3).bind (fun o2 ho2 => ?_))
          obtain ⟨o1, J3, R3⟩ := ho2
          rw [if_pos (o1.trans h0), zW_some]
          exact ⟨rfl, ((J0.toX (fun a j z => scm_in z) (by omega)).trans (J2.toX (fun a j z => by omega) (by omega))).trans (J3.toX (fun a j z => by omega)), R3, R2.2.keepM (J3.toM (m := m)) (by omega) (fun j => by omega)⟩
      · refine ⟨1, sT (sR A [(lowI (blM (aH A) a b (lw l) l.length)).toInt64]) [], (hA.row (l := [(lowI (blM (aH A) a b (lw l) l.length)).toInt64]) (by simp)).noT.mono (Nat.le_succ c), ?_, fun g' hR => ?_⟩
        · unfold Cc f_X11_blend f_X11_blend_28 f_X11_blend_30
          rw [e_ih11, Option.bind_some, if_neg (bI_ne hv), e_ih11, Option.bind_some, if_neg (bI_ne hu), if_neg hne]
          refine w_vs hL.s0 ?_
          have hr : zW (f_X11_readBlend N x (nI a) (nI b) g) (fun o => o.1 = 1 ∧ zJ (SR (x + 3) (x + 4)) g o.2 ∧ XR o.2 (x + 3) (x + 4) [(lowI (blM (aH A) a b (lw l) l.length)).toInt64] ∧ CJ x o.2 A) := by
            unfold f_X11_readBlend
            refine w_rdR hL.s0 hL.r0_0 (w_vs hL.s1 (w_eq ebad ?_))
            rw [if_neg hbd, if_pos (show -nI 1 = -1 from rfl)]
            refine w_rdR hL.s0 hL.r0_2 (w_rdR hL.s0 hL.r0_0 (w_vs (c_XHl hC.1).1 (w_eq efew ?_)))
            rw [if_neg h0]
            refine c_only hC.1 hA (fun g2 J2 X2 C2 => ?_)
            rw [zW_some]
            exact ⟨rfl, J2, X2, C2⟩
          refine hr.bind (fun o ho => ?_)
          obtain ⟨o1, J2, X2, C2⟩ := ho
          refine (c_noText (A := sR A [(lowI (blM (aH A) a b (lw l) l.length)).toInt64]) (r := o.1) C2 X2 (hA.row (by simp))).mono (fun o' h' => ?_)
          exact ⟨h'.1.trans o1, (J2.toX (fun a j z => by omega)).trans h'.2.1, h'.2.2⟩
        · unfold Rc f_X12_blend f_X12_blend_24
          refine r_start hR hA (fun g1 J0 hR1 _ => ?_)
          rw [e_ih12, Option.bind_some, if_neg (bI_ne hv), e_ih12, Option.bind_some, if_neg (bI_ne hu), if_neg hne]
          refine w_vs hR1.1.1.s0 ((r_readWords (l := l) (n0 := 0) hN hR1.1.1 (by rw [hl]; exact hR1.1.2.2.2.1) h256 (by omega)).bind (fun o ho => ?_))
          obtain ⟨J2, e7, -, w2⟩ := ho
          obtain ⟨w3, w4⟩ := w2 (by omega)
          have R2 : RI m o.2 (sT A []) := r_noText hR1 hA J2 (fun a j z => z) e7
          rw [w3, if_pos (show (0 : Int32) ≤ nI l.length from nI_le (a := 0) (by omega) (by omega))]
          refine w_vs R2.1.1.s0 ((r_blendOf hN R2.1 hA.noT ha hb w4 (by omega) q3).bind (fun o2 ho2 => ?_))
          obtain ⟨z, g3⟩ := o2
          obtain ⟨o1, J3, R3⟩ := ho2
          dsimp only at o1 J3 R3 ⊢
          subst o1
          rw [if_neg h0]
          refine r_only R3 hA.noT (fun g4 J4 W4 R4 => ?_)
          rw [zW_some]
          exact ⟨rfl, (((J0.toX (fun a j z => scm_in z) (by omega)).trans (J2.toX (fun a j z => by omega) (by omega))).trans (J3.toX (fun a j z => by omega))).trans (J4.toX (fun a j z => by omega)), R4, W4⟩
  · refine ⟨-100, sT A [], hA.noT.mono (Nat.le_succ c), ?_, fun g' hR => ?_⟩
    · unfold Cc f_X11_blend f_X11_blend_28 f_X11_blend_30
      rw [e_ih11, Option.bind_some]
      cases hv : rb v 0 4 with
      | false =>
        rw [if_pos (bI_eq rfl)]
        exact c_noText hC.1 hC.2 hA
      | true =>
        rw [if_neg (bI_ne rfl), e_ih11, Option.bind_some]
        cases hu : rb u 0 4 with
        | false =>
          rw [if_pos (bI_eq rfl)]
          exact c_noText hC.1 hC.2 hA
        | true =>
          rw [if_neg (bI_ne rfl), if_pos (Decidable.not_not.mp (fun h => hvu ⟨hv, hu, h⟩))]
          exact c_noText hC.1 hC.2 hA
    · unfold Rc f_X12_blend f_X12_blend_24
      refine r_start hR hA (fun g1 J0 hR1 _ => ?_)
      have fin : zW ((zwrI g1 m 12 7 (0 : Int32)).bind fun g1 => some ((-100 : Int32), g1)) (fun o => o.1 = -100 ∧ zX m (m + 33) g' o.2 ∧ RI m o.2 (sT A [])) := by
        rw [c_0, p_wrI hR1.1.1.s0, Option.bind_some, zW_some]
        have J : zJ (fun a j => a = m ∧ j = 7) g1 (zsetI g1 m 7 (nI 0)) := zJ.setI ⟨rfl, rfl⟩
        exact ⟨rfl, (J0.toX (fun a j z => scm_in z) (by omega)).trans (J.toX (fun a j z => by omega)), r_noText hR1 hA J.toM (fun a j z => by omega) (by rw [gi_sI, if_pos ⟨rfl, rfl⟩])⟩
      rw [e_ih12, Option.bind_some]
      cases hv : rb v 0 4 with
      | false =>
        rw [if_pos (bI_eq rfl)]
        exact fin
      | true =>
        rw [if_neg (bI_ne rfl), e_ih12, Option.bind_some]
        cases hu : rb u 0 4 with
        | false =>
          rw [if_pos (bI_eq rfl)]
          exact fin
        | true =>
          rw [if_neg (bI_ne rfl), if_pos (Decidable.not_not.mp (fun h => hvu ⟨hv, hu, h⟩))]
          exact fin)
/-! source -/
def soF (ok : Nat → Nat → Bool) (a b : Nat) (s : Nat × Nat) : Nat × Nat := if a < b ∧ ok a b = true then (if s.2 = 0 then 10 * a + b else s.1, s.2 + 1) else s
def soI (ok : Nat → Nat → Bool) (a k : Nat) (s : Nat × Nat) : Nat × Nat := zfold (soF ok a) k s
def soO (ok : Nat → Nat → Bool) (k : Nat) : Nat × Nat := zfold (fun a s => soI ok a 4 s) k (0, 0)
theorem soI_s {ok : Nat → Nat → Bool} {a k : Nat} {s : Nat × Nat} : soI ok a (k + 1) s = soF ok a k (soI ok a k s) := rfl
theorem soO_s {ok : Nat → Nat → Bool} {k : Nat} : soO ok (k + 1) = soI ok k 4 (soO ok k) := rfl
theorem soI_skip {ok : Nat → Nat → Bool} {a : Nat} {s : Nat × Nat} : ∀ k, k ≤ a + 1 → soI ok a k s = s
  | 0, _ => rfl
  | k + 1, h => by
    rw [soI_s, soI_skip k (by omega)]
    unfold soF
    rw [if_neg (fun h => by omega)]
theorem soI_le {ok : Nat → Nat → Bool} {a : Nat} {s : Nat × Nat} : ∀ k, (soI ok a k s).2 ≤ s.2 + k
  | 0 => Nat.le_refl _
  | k + 1 => by
    have := soI_le (ok := ok) (a := a) (s := s) k
    rw [soI_s]
    unfold soF
    split
    · show _ + 1 ≤ _; omega
    · omega
theorem soO_le {ok : Nat → Nat → Bool} : ∀ k, (soO ok k).2 ≤ 4 * k
  | 0 => Nat.le_refl _
  | k + 1 => by
    have h1 := soO_le (ok := ok) k
    have h2 := soI_le (ok := ok) (a := k) (s := soO ok k) 4
    rw [soO_s]; omega
def soB (d : Int32) (s : Nat × Nat) : Int32 := if s.2 = 0 then d else nI s.1
theorem k_source (hN : 10000 ≤ N) : Call (fun x g => f_X11_source N x g) (fun m g => f_X12_source N m g) := call_s (fun x m c g A hC hA hc => by
  have h80 := hA.2.2.1
  have h256 := hA.2.2.2.1
  have hL := hC.1.1
  obtain ⟨l, hl⟩ : ∃ l, l = aT A := ⟨_, rfl⟩
  rw [← hl] at h80 h256
  have hXT : XT g (x + 1) (x + 2) l := by rw [hl]; exact hC.1.2.1
  obtain ⟨q1, q2, q3, q4⟩ := tq_spec l
  have ebad := e_bad hN hXT
  rw [show zleast (tb l) l.length 0 = tq l from rfl] at ebad
  by_cases hbd : tq l < l.length
  · refine ⟨(-1 : Int32) - nI (tq l), sT A [], hA.noT.mono (Nat.le_succ c), ?_, fun g' hR => ?_⟩
    · unfold Cc f_X11_source f_X11_source_23
      refine w_rdR hL.s0 hL.r0_0 (w_vs hL.s1 (w_eq ebad ?_))
      rw [if_pos hbd, if_neg (fun h' => (neg1_ne (by omega)).mp h')]
      exact c_noText hC.1 hC.2 hA
    · unfold Rc f_X12_source
      refine r_start hR hA (fun g1 J0 hR1 _ => ?_)
      refine w_vs hR1.1.1.s0 ((r_readWords (l := l) (n0 := 0) hN hR1.1.1 (by rw [hl]; exact hR1.1.2.2.2.1) h256 (by omega)).bind (fun o ho => ?_))
      obtain ⟨J2, e7, w1, -⟩ := ho
      rw [w1 (Or.inr hbd), if_neg (m1_neg _ (by omega)), zW_some]
      exact ⟨rfl, (J0.toX (fun a j z => scm_in z) (by omega)).trans (J2.toX (fun a j z => by omega) (by omega)), r_noText hR1 hA J2 (fun a j z => z) e7⟩
  · have hql : tq l = l.length := by omega
    rw [hql] at q3
    obtain ⟨ok, hok⟩ : ∃ ok : Nat → Nat → Bool, ok = fun a b => decide (blM (aH A) a b (lw l) l.length ≠ 0) := ⟨_, rfl⟩
    have hoke : ∀ a b, (lowI (blM (aH A) a b (lw l) l.length) = -1) ↔ ok a b = false := fun a b => by
      have hK := blM_lt (H := aH A) (a := a) (b := b) (t := lw l) l.length
      have hM2 : 2 ^ (l.length + 1) ≤ 2 ^ 17 := p2_le (by omega)
      rw [low_neg (show blM (aH A) a b (lw l) l.length < 2 ^ 17 by omega), hok]
      show _ ↔ decide _ = false
      rw [decide_eq_false_iff_not, Decidable.not_not]
    have sfy : ∀ a b s, a < b → ok a b = true → soF ok a b s = (if s.2 = 0 then 10 * a + b else s.1, s.2 + 1) := fun a b s h1 h2 => by unfold soF; rw [if_pos ⟨h1, h2⟩]
    have sfn : ∀ a b s, ok a b = false → soF ok a b s = s := fun a b s h2 => by unfold soF; rw [if_neg (fun h => by rw [h2] at h; cases h.2)]
    refine ⟨soB (-200) (soO ok 4), sT (sR A (if (soO ok 4).2 = 0 then aR A else [wL (soO ok 4).2])) [], (hA.row (l := if (soO ok 4).2 = 0 then aR A else [wL (soO ok 4).2]) (by split; exact hA.2.2.2.2.1; simp)).noT.mono (Nat.le_succ c), ?_, fun g' hR => ?_⟩
    · unfold Cc f_X11_source f_X11_source_23
      refine w_rdR hL.s0 hL.r0_0 (w_vs hL.s1 (w_eq ebad ?_))
      rw [if_neg hbd, if_pos (show -nI 1 = -1 from rfl)]
      refine w_vs hL.s0 ?_
      have hr : zW (f_X11_findSource N x g) (fun o => o.1 = soB (-200) (soO ok 4) ∧ zJ (SR (x + 3) (x + 4)) g o.2 ∧ XR o.2 (x + 3) (x + 4) (if (soO ok 4).2 = 0 then aR A else [wL (soO ok 4).2]) ∧ CJ x o.2 A) := by
        unfold f_X11_findSource
        refine zW_for (fun a (s : Int32 × Int32 × Int32) => s.1 = soB (-200) (soO ok a) ∧ s.2.1 = nI (soO ok a).2 ∧ s.2.2 = nI a) 4 (fun a s ha hs => ?_) (fun s hs => ?_) (by omega) (Nat.zero_le _) ⟨rfl, rfl, rfl⟩
        · obtain ⟨y1, y2, y3⟩ := s
          obtain ⟨h1, h2, h3⟩ := hs
          dsimp only at h1 h2 h3
          subst h1 h2 h3
          rw [soO_s]
          have hle := soO_le (ok := ok) a
          show zW (f_X11_findSource_8 N x (soB (-200) (soO ok a)) (nI (soO ok a).2) (nI a) g) _
          generalize soO ok a = S at hle ⊢
          unfold f_X11_findSource_8
          rw [c_4, if_neg (nI_ge ha (by omega)), c_1, nI_add]
          refine zW_for (fun b (s : Int32 × Int32 × Int32) => s.1 = soB (-200) (soI ok a b S) ∧ s.2.1 = nI (soI ok a b S).2 ∧ s.2.2 = nI b ∧ a < b) 4 (fun b s hb hs => ?_) (fun s hs => ?_) (by omega) (show a + 1 ≤ 4 by omega) ⟨by rw [soI_skip _ (Nat.le_refl _)], by rw [soI_skip _ (Nat.le_refl _)], rfl, by omega⟩
          · obtain ⟨z1, z2, z3⟩ := s
            obtain ⟨k1, k2, k3, k4⟩ := hs
            dsimp only at k1 k2 k3
            subst k1 k2 k3
            have hle2 := soI_le (ok := ok) (a := a) (s := S) b
            have hb' : b < 4 := hb
            rw [soI_s]
            show zW (f_X11_findSource_18 N x (soB (-200) (soI ok a b S)) (nI (soI ok a b S).2) (nI a) (nI b) g) _
            generalize soI ok a b S = P at hle2 ⊢
            unfold f_X11_findSource_18 f_X11_findSource_57 f_X11_findSource_61
            rw [c_4, if_neg (nI_ge hb' (by omega))]
            refine w_rdR hL.s0 hL.r0_2 (w_rdR hL.s0 hL.r0_0 (w_vs (c_XHl hC.1).1 (w_eq (e_few hN hC.1 hA ha hb' hXT (by omega) q3) ?_)))
            cases ho : ok a b with
            | false =>
              rw [if_pos ((hoke a b).mpr ho), zW_some, zI_inl, sfn _ _ _ ho, c_1, nI_add]
              exact ⟨rfl, rfl, rfl, by omega⟩
            | true =>
              rw [if_neg (fun h => by rw [(hoke a b).mp h] at ho; cases ho), sfy _ _ _ k4 ho]
              by_cases e0 : P.2 = 0
              · rw [if_pos (show nI P.2 = 0 by rw [e0]; rfl), zW_some, zI_inl, if_pos e0, c_1, nI_add, nI_add, c_10, nI_mul, nI_add]
                exact ⟨rfl, rfl, rfl, by omega⟩
              · rw [if_neg (nI_ne0 (by omega) (by omega)), zW_some, zI_inl, if_neg e0, c_1, nI_add, nI_add]
                refine ⟨?_, rfl, rfl, by omega⟩
                show soB (-200) P = soB (-200) (P.1, P.2 + 1)
                unfold soB
                rw [if_neg e0, if_neg (by show P.2 + 1 ≠ 0; omega)]
          · obtain ⟨z1, z2, z3⟩ := s
            obtain ⟨k1, k2, k3, k4⟩ := hs
            dsimp only at k1 k2 k3
            subst k1 k2 k3
            show zW (f_X11_findSource_18 N x (soB (-200) (soI ok a 4 S)) (nI (soI ok a 4 S).2) (nI a) (nI 4) g) _
            unfold f_X11_findSource_18
            rw [c_4, if_pos (nI_le (Nat.le_refl _) (by omega)), Option.map_some, zW_some, zI_inr, zI_inl, c_1, nI_add]
            exact ⟨rfl, rfl, rfl⟩
        · obtain ⟨y1, y2, y3⟩ := s
          obtain ⟨h1, h2, h3⟩ := hs
          dsimp only at h1 h2 h3
          subst h1 h2 h3
          have hle := soO_le (ok := ok) 4
          show zW (f_X11_findSource_8 N x (soB (-200) (soO ok 4)) (nI (soO ok 4).2) (nI 4) g) _
          unfold f_X11_findSource_8 f_X11_findSource_86
          rw [c_4, if_pos (nI_le (Nat.le_refl _) (by omega)), zW_map]
          by_cases e0 : (soO ok 4).2 = 0
          · rw [if_pos (show nI (soO ok 4).2 ≤ 0 by rw [e0]; decide), zW_some, zI_inr, if_pos e0]
            exact ⟨rfl, zJ.rfl, hC.2, hC.1⟩
          · rw [if_neg (show ¬ nI (soO ok 4).2 ≤ 0 from nI_ge (show 0 < (soO ok 4).2 by omega) (by omega))]
            refine c_only hC.1 hA (fun g2 J2 X2 C2 => ?_)
            rw [zW_some, zI_inr, if_neg e0]
            exact ⟨rfl, J2, X2, C2⟩
      refine hr.bind (fun o ho => ?_)
      obtain ⟨o1, J2, X2, C2⟩ := ho
      refine (c_noText (A := sR A (if (soO ok 4).2 = 0 then aR A else [wL (soO ok 4).2])) (r := o.1) C2 X2 (hA.row (by split; exact hA.2.2.2.2.1; simp))).mono (fun o' h' => ?_)
      exact ⟨h'.1.trans o1, (J2.toX (fun a j z => by omega)).trans h'.2.1, h'.2.2⟩
    · unfold Rc f_X12_source
      refine r_start hR hA (fun g1 J0 hR1 _ => ?_)
      refine w_vs hR1.1.1.s0 ((r_readWords (l := l) (n0 := 0) hN hR1.1.1 (by rw [hl]; exact hR1.1.2.2.2.1) h256 (by omega)).bind (fun o ho => ?_))
      obtain ⟨y, g2⟩ := o
      obtain ⟨J2, e7, -, w2⟩ := ho
      obtain ⟨w3, w4⟩ := w2 (by omega)
      dsimp only at J2 e7 w3 w4 ⊢
      have R2 : RI m g2 (sT A []) := r_noText hR1 hA J2 (fun a j z => z) e7
      have Z2 := (J0.toX (fun a j z => scm_in z) (show m ≤ m ∧ m < m + 33 by omega)).trans (J2.toX (hi := m + 33) (fun a j z => by omega) (by omega))
      rw [w3, if_pos (show (0 : Int32) ≤ nI l.length from nI_le (a := 0) (by omega) (by omega))]
      refine zW_for (fun a (s : Int32 × Int32 × Int32 × ZS) => s.1 = soB (-1) (soO ok a) ∧ s.2.1 = nI (soO ok a).2 ∧ s.2.2.1 = nI a ∧ zJ (fun x _ => x = m + 20) g2 s.2.2.2) 4 (fun a s ha hs => ?_) (fun s hs => ?_) (by omega) (Nat.zero_le _) ⟨rfl, rfl, rfl, zJ.rfl⟩
      · obtain ⟨y1, y2, y3, g3⟩ := s
        obtain ⟨h1, h2, h3, h4⟩ := hs
        dsimp only at h1 h2 h3 h4
        subst h1 h2 h3
        rw [soO_s]
        have hle := soO_le (ok := ok) a
        show zW (f_X12_source_24 N m (nI l.length) (soB (-1) (soO ok a)) (nI (soO ok a).2) (nI a) g3) _
        generalize soO ok a = S at hle ⊢
        unfold f_X12_source_24
        rw [c_4, if_neg (nI_ge ha (by omega)), c_1, nI_add]
        refine zW_for (fun b (s : Int32 × Int32 × Int32 × ZS) => s.1 = soB (-1) (soI ok a b S) ∧ s.2.1 = nI (soI ok a b S).2 ∧ s.2.2.1 = nI b ∧ a < b ∧ zJ (fun x _ => x = m + 20) g2 s.2.2.2) 4 (fun b s hb hs => ?_) (fun s hs => ?_) (by omega) (show a + 1 ≤ 4 by omega) ⟨by rw [soI_skip _ (Nat.le_refl _)]; rfl, by rw [soI_skip _ (Nat.le_refl _)], rfl, by omega, h4⟩
        · obtain ⟨z1, z2, z3, g4⟩ := s
          obtain ⟨k1, k2, k3, k4, k5⟩ := hs
          dsimp only at k1 k2 k3 k5
          subst k1 k2 k3
          have hle2 := soI_le (ok := ok) (a := a) (s := S) b
          have hb' : b < 4 := hb
          have R4 := R2.1.keep hA.noT (k5.toM (m := m)) (fun a j z => by omega)
          rw [soI_s]
          show zW (f_X12_source_36 N m (nI l.length) (soB (-1) (soI ok a b S)) (nI (soI ok a b S).2) (nI a) (nI b) g4) _
          generalize soI ok a b S = P at hle2 ⊢
          unfold f_X12_source_36 f_X12_source_74 f_X12_source_78
          rw [c_4, if_neg (nI_ge hb' (by omega))]
          refine w_vs R4.1.s0 ((r_blendOf hN R4 hA.noT ha hb' (fun j hj => by rw [k5.gi (by omega)]; exact w4 j hj) (by omega) q3).bind (fun o2 ho2 => ?_))
          obtain ⟨z, g5⟩ := o2
          obtain ⟨o1, J5, R5⟩ := ho2
          dsimp only at o1 J5 R5 ⊢
          cases ho : ok a b with
          | false =>
            rw [if_pos (o1.trans ((hoke a b).mpr ho)), zW_some, zI_inl, sfn _ _ _ ho, c_1, nI_add]
            exact ⟨rfl, rfl, rfl, by omega, k5.trans J5⟩
          | true =>
            rw [if_neg (fun h => by rw [(hoke a b).mp (o1.symm.trans h)] at ho; cases ho), sfy _ _ _ k4 ho]
            by_cases e0 : P.2 = 0
            · rw [if_pos (show nI P.2 = 0 by rw [e0]; rfl), zW_some, zI_inl, if_pos e0, c_1, nI_add, nI_add, c_10, nI_mul, nI_add]
              exact ⟨rfl, rfl, rfl, by omega, k5.trans J5⟩
            · rw [if_neg (nI_ne0 (by omega) (by omega)), zW_some, zI_inl, if_neg e0, c_1, nI_add, nI_add]
              refine ⟨?_, rfl, rfl, by omega, k5.trans J5⟩
              show soB (-1) P = soB (-1) (P.1, P.2 + 1)
              unfold soB
              rw [if_neg e0, if_neg (by show P.2 + 1 ≠ 0; omega)]
        · obtain ⟨z1, z2, z3, g4⟩ := s
          obtain ⟨k1, k2, k3, k4, k5⟩ := hs
          dsimp only at k1 k2 k3 k5
          subst k1 k2 k3
          show zW (f_X12_source_36 N m (nI l.length) (soB (-1) (soI ok a 4 S)) (nI (soI ok a 4 S).2) (nI a) (nI 4) g4) _
          unfold f_X12_source_36
          rw [c_4, if_pos (nI_le (Nat.le_refl _) (by omega)), Option.map_some, zW_some, zI_inr, zI_inl, c_1, nI_add]
          exact ⟨rfl, rfl, rfl, k5⟩
      · obtain ⟨y1, y2, y3, g3⟩ := s
        obtain ⟨h1, h2, h3, h4⟩ := hs
        dsimp only at h1 h2 h3 h4
        subst h1 h2 h3
        have hle := soO_le (ok := ok) 4
        have R3 := R2.1.keep hA.noT (h4.toM (m := m)) (fun a j z => by omega)
        show zW (f_X12_source_24 N m (nI l.length) (soB (-1) (soO ok 4)) (nI (soO ok 4).2) (nI 4) g3) _
        unfold f_X12_source_24
        rw [c_4, if_pos (nI_le (Nat.le_refl _) (by omega)), zW_map]
        by_cases e0 : (soO ok 4).2 = 0
        · rw [if_pos (show nI (soO ok 4).2 = 0 by rw [e0]; rfl), zW_some, zI_inr, if_pos e0]
          refine ⟨?_, Z2.trans (h4.toX (fun a j z => by omega)), R3, R2.2.keepM (h4.toM (m := m)) (by omega) (fun j => by omega)⟩
          show (-200 : Int32) = soB (-200) (soO ok 4)
          unfold soB
          rw [if_pos e0]
        · rw [if_neg (nI_ne0 (by omega) (by omega))]
          refine r_only R3 hA.noT (fun g4 J4 W4 R4 => ?_)
          rw [zW_some, zI_inr, if_neg e0]
          refine ⟨?_, (Z2.trans (h4.toX (fun a j z => by omega))).trans (J4.toX (fun a j z => by omega)), R4, W4⟩
          show soB (-1) (soO ok 4) = soB (-200) (soO ok 4)
          unfold soB
          rw [if_neg e0, if_neg e0])
end BL2
