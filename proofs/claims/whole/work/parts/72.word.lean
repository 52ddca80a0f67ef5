/-! ===== word ===== -/
section WD
variable {N x m c : Nat} {g g1 g2 g3 g' : ZS} {A : ZA}
def wdA (A : ZA) (p w k : Nat) : Int32 := if k = 0 then nI (bO (aB A p) w) else if k = 3 then nI (bT (aB A p) w) else if 0 < bO (aB A p) w then (if k = 1 then nI (bF (aB A p) w) else if k = 2 then nI (bL (aB A p) w) else fdC (aK A) (aB A p) (aW A) w) else (if k = 4 then 0 else -1)
theorem c_word51 {p w k : Nat} {s : Int32} (hN : 10000 ≤ N) (hC : CI x g A) (hA : AI A c) (hp : p < an A) (hw : w < 8) (hk : k < 5) (hs : s = if 0 < bO (aB A p) w then 0 else 1) : zW (f_X11_word_51 N x (nI w) (nI k) (x + 23 + 2 + 5 * p) s g) (fun o => o.1 = some (wdA A p w k) ∧ zX x (x + 581) g o.2 ∧ CI x o.2 A) := by
  obtain ⟨b1, b2, b3, b4, b5, b6, b7⟩ := c_bird hC.1 hA hp
  obtain ⟨t1, t2, t3, t4, t5, t6, t7, t8, t9⟩ := b2.f
  obtain ⟨y1, y2, y3, y4⟩ := b3.2.2.2.2 w hw
  have hL := hC.1.1
  unfold f_X11_word_51 f_X11_word_112 f_X11_word_129 f_X11_word_163
  simp only [zcase]
  have cc : k = 0 ∨ k = 1 ∨ k = 2 ∨ k = 3 ∨ k = 4 := by omega
  rcases cc with rfl | rfl | rfl | rfl | rfl
  · rw [if_pos (show nI 0 = 0 from rfl)]
    refine w_rdR t1 t6 ?_
    rw [a20_8 t2 hw, Option.bind_some, y1]
    exact c_some hC
  · rw [if_neg (show ¬ nI 1 = 0 by decide), if_pos (show nI 1 = 1 from rfl)]
    by_cases h : 0 < bO (aB A p) w
    · rw [hs, if_pos h, if_pos rfl]
      refine w_rdR t1 t7 ?_
      rw [a20_8 t3 hw, Option.bind_some, y2, show wdA A p w 1 = nI (bF (aB A p) w) by unfold wdA; rw [if_neg (by omega), if_neg (by omega), if_pos h, if_pos rfl]]
      exact c_some hC
    · rw [hs, if_neg h, if_neg (by decide), show wdA A p w 1 = -1 by unfold wdA; rw [if_neg (by omega), if_neg (by omega), if_neg h, if_neg (by omega)]]
      exact c_some hC
  · rw [if_neg (show ¬ nI 2 = 0 by decide), if_neg (show ¬ nI 2 = 1 by decide), if_pos (show nI 2 = 2 from rfl)]
    by_cases h : 0 < bO (aB A p) w
    · rw [hs, if_pos h, if_pos rfl]
      refine w_rdR t1 t8 ?_
      rw [a20_8 t4 hw, Option.bind_some, y3, show wdA A p w 2 = nI (bL (aB A p) w) by unfold wdA; rw [if_neg (by omega), if_neg (by omega), if_pos h, if_neg (by omega), if_pos rfl]]
      exact c_some hC
    · rw [hs, if_neg h, if_neg (by decide), show wdA A p w 2 = -1 by unfold wdA; rw [if_neg (by omega), if_neg (by omega), if_neg h, if_neg (by omega)]]
      exact c_some hC
  · rw [if_neg (show ¬ nI 3 = 0 by decide), if_neg (show ¬ nI 3 = 1 by decide), if_neg (show ¬ nI 3 = 2 by decide), if_pos (show nI 3 = 3 from rfl)]
    refine w_rdR t1 t9 ?_
    rw [a20_8 t5 hw, Option.bind_some, y4]
    exact c_some hC
  · rw [if_neg (show ¬ nI 4 = 0 by decide), if_neg (show ¬ nI 4 = 1 by decide), if_neg (show ¬ nI 4 = 2 by decide), if_neg (show ¬ nI 4 = 3 by decide), if_pos (show nI 4 = 4 from rfl)]
    by_cases h : 0 < bO (aB A p) w
    · rw [hs, if_pos h, if_pos rfl, show wdA A p w 4 = fdC (aK A) (aB A p) (aW A) w by unfold wdA; rw [if_neg (by omega), if_neg (by omega), if_pos h, if_neg (by omega), if_neg (by omega)]]
      obtain ⟨r, e1, e2, e3, e4, e5⟩ := c_rule (c := c) hC.1
      have hRul := hA.2.2.2.2.2.1
      refine w_rdR hL.s0 e1 (w_rdR hL.s0 hL.r0_3 ?_)
      rw [a20_8 hL.s12 hw, Option.bind_some, hC.1.2.2.2.1 w hw]
      refine w_vs e2 ((s_fond5 hN e3 b2 b3 hw e5 hRul.2.2.1 (hRul.ok _) (by omega)).bind (fun o ho => ?_))
      rw [zW_some, ho.1]
      exact ⟨rfl, ho.2.toX (fun a j z => by omega), hC.1.keep hA ho.2 (fun a j z => by omega), hC.2.stay ho.2 (fun a j z => by omega)⟩
    · rw [hs, if_neg h, if_neg (by decide), show wdA A p w 4 = 0 by unfold wdA; rw [if_neg (by omega), if_neg (by omega), if_neg h, if_pos rfl]]
      exact c_some hC
theorem k_word (hN : 10000 ≤ N) (v u z : Int32) : CallO (fun x g => f_X11_word N x v u z g) (fun m g => f_X12_word N m v u z g) := call_o (fun x m c g A hC hA hc => by
  have n6 := hA.1.1
  have hL := hC.1.1
  by_cases hvu : rb v 0 (an A) = true ∧ rb u 0 8 = true
  · obtain ⟨hv, hu⟩ := hvu
    obtain ⟨p, -, hp, rfl⟩ := rb_t hv (by omega)
    obtain ⟨w, -, hw, rfl⟩ := rb_t hu (by omega)
    obtain ⟨b1, b2, b3, b4, b5, b6, b7⟩ := c_bird hC.1 hA hp
    have i1 := (b4.2.2.2.2 w hw).1
    have i2 := b4.2.2.1
    have runC : ∀ Z : Option Int32 × ZS → Prop, (∀ s : Int32, (s = if 0 < bO (aB A p) w then 0 else 1) → zW (f_X11_word_51 N x (nI w) z (x + 23 + 2 + 5 * p) s g) Z) → zW (f_X11_word N x (nI p) (nI w) z g) Z := by
      intro Z hZ
      unfold f_X11_word
      refine w_vs hL.s0 (w_eq (e_ip11 hC.1 hA) ?_)
      rw [if_neg (bI_ne hv), e_iw11, Option.bind_some, if_neg (bI_ne hu)]
      refine w_rdR hL.s0 hL.r0_6 (w_rdR hL.SL23.f.1 hL.SL23.f.2.2.1 ?_)
      rw [a25_6 hL.SL23.f.2.1 (by omega), b1, Option.bind_some]
      obtain ⟨t1, t2, t3, t4, t5, t6, t7, t8, t9⟩ := b2.f
      refine w_rdR t1 t6 ?_
      rw [a20_8 t2 hw, Option.bind_some, (b3.2.2.2.2 w hw).1]
      by_cases h : 0 < bO (aB A p) w
      · rw [if_neg (fun h' => by rw [c_0, nI_eq (by omega) (by omega)] at h'; omega)]
        exact hZ 0 (if_pos h).symm
      · rw [if_pos (show nI (bO (aB A p) w) = 0 by rw [show bO (aB A p) w = 0 by omega]; rfl)]
        exact hZ 1 (if_neg h).symm
    cases hz : rb z 0 (4 + 1) with
    | false =>
      refine ⟨none, runC _ (fun s _ => ?_), fun g' hR => ?_⟩
      · unfold f_X11_word_51
        simp only [zcase]
        rw [if_neg (show ¬ z = 0 from zc_no hz (show 0 < 4 + 1 by omega) (by omega)), if_neg (show ¬ z = 1 from zc_no hz (show 1 < 4 + 1 by omega) (by omega)), if_neg (show ¬ z = 2 from zc_no hz (show 2 < 4 + 1 by omega) (by omega)), if_neg (show ¬ z = 3 from zc_no hz (show 3 < 4 + 1 by omega) (by omega)), if_neg (show ¬ z = 4 from zc_no hz (show 4 < 4 + 1 by omega) (by omega))]
        exact c_none hC
      · unfold f_X12_word f_X12_word_29
        refine r_start hR hA (fun g1 J0 hR1 h10 => ?_)
        refine w_vs hR1.1.1.s0 (w_eq (e_ip hR1.1 hA) ?_)
        rw [if_neg (bI_ne hv), e_iw12, Option.bind_some, if_neg (bI_ne hu), show f_X12_in z (0 : Int32) (4 : Int32) = some (bI (rb z 0 (4 + 1))) from e_inz (hi := 4) (by omega), Option.bind_some, if_pos (bI_eq hz)]
        exact r_lost (y := (0 : Int32)) (fun g => rfl) J0 hR1 hA
    | true =>
      obtain ⟨k, -, hk, rfl⟩ := rb_t hz (by omega)
      refine ⟨some (wdA A p w k), runC _ (fun s hs => c_word51 hN hC hA hp hw hk hs), fun g' hR => ?_⟩
      unfold f_X12_word f_X12_word_111 f_X12_word_134 f_X12_word_168
      refine r_start hR hA (fun g1 J0 hR1 h10 => ?_)
      have hb := hR1.1.2.2.2.2.2.2.1.2.2.2 p hp
      obtain ⟨y1, y2, y3, y4⟩ := hb.2.2.2.2 w hw
      refine w_vs hR1.1.1.s0 (w_eq (e_ip hR1.1 hA) ?_)
      rw [if_neg (bI_ne hv), e_iw12, Option.bind_some, if_neg (bI_ne hu), show f_X12_in (nI k) (0 : Int32) (4 : Int32) = some (bI (rb (nI k) 0 (4 + 1))) from e_inz (hi := 4) (by omega), Option.bind_some, if_neg (bI_ne hz)]
      refine w_rdR hR1.1.1.s0 hR1.1.1.r0 (w_eq (e_hasHeard hR1.1.1.s1 (by omega) hw hb b4) ?_)
      simp only [zcase]
      have rd : ∀ j v, j < 36 → zgi g1 (m + 1) (36 * p + j) = v → ∀ kk : Int32 → Option (Int32 × ZS), ((zrdR g1 m 12 0).bind fun v4 => (f_X12_of (nI p) (nI j)).bind fun v5 => (zald 20 g1 v4 v5).bind kk) = kk v := fun j v hj e kk => by
        unfold f_X12_of
        rw [p_rdR hR1.1.1.s0, hR1.1.1.r0, Option.bind_some, Option.bind_some, c_36, nI_mul, nI_add, a20_217 hR1.1.1.s1 (by omega), e, Option.bind_some]
      have cc : k = 0 ∨ k = 1 ∨ k = 2 ∨ k = 3 ∨ k = 4 := by omega
      rcases cc with rfl | rfl | rfl | rfl | rfl
      · rw [if_pos (show nI 0 = 0 from rfl), c_4, nI_add, rd (4 + w) _ (by omega) y1]
        exact r_some J0 hR1 h10
      · rw [if_neg (show ¬ nI 1 = 0 by decide), if_pos (show nI 1 = 1 from rfl)]
        by_cases h : 0 < bO (aB A p) w
        · rw [if_neg (bI_ne (decide_eq_true h)), c_12, nI_add, rd (12 + w) _ (by omega) y2, show wdA A p w 1 = nI (bF (aB A p) w) by unfold wdA; rw [if_neg (by omega), if_neg (by omega), if_pos h, if_pos rfl]]
          exact r_some J0 hR1 h10
        · rw [if_pos (bI_eq (decide_eq_false h)), show wdA A p w 1 = -1 by unfold wdA; rw [if_neg (by omega), if_neg (by omega), if_neg h, if_neg (by omega)]]
          exact r_some J0 hR1 h10
      · rw [if_neg (show ¬ nI 2 = 0 by decide), if_neg (show ¬ nI 2 = 1 by decide), if_pos (show nI 2 = 2 from rfl)]
        by_cases h : 0 < bO (aB A p) w
        · rw [if_neg (bI_ne (decide_eq_true h)), c_20, nI_add, rd (20 + w) _ (by omega) y3, show wdA A p w 2 = nI (bL (aB A p) w) by unfold wdA; rw [if_neg (by omega), if_neg (by omega), if_pos h, if_neg (by omega), if_pos rfl]]
          exact r_some J0 hR1 h10
        · rw [if_pos (bI_eq (decide_eq_false h)), show wdA A p w 2 = -1 by unfold wdA; rw [if_neg (by omega), if_neg (by omega), if_neg h, if_neg (by omega)]]
          exact r_some J0 hR1 h10
      · rw [if_neg (show ¬ nI 3 = 0 by decide), if_neg (show ¬ nI 3 = 1 by decide), if_neg (show ¬ nI 3 = 2 by decide), if_pos (show nI 3 = 3 from rfl), c_28, nI_add, rd (28 + w) _ (by omega) y4]
        exact r_some J0 hR1 h10
      · rw [if_neg (show ¬ nI 4 = 0 by decide), if_neg (show ¬ nI 4 = 1 by decide), if_neg (show ¬ nI 4 = 2 by decide), if_neg (show ¬ nI 4 = 3 by decide)]
        by_cases h : 0 < bO (aB A p) w
        · rw [if_neg (bI_ne (decide_eq_true h)), show wdA A p w 4 = fdC (aK A) (aB A p) (aW A) w by unfold wdA; rw [if_neg (by omega), if_neg (by omega), if_pos h, if_neg (by omega), if_neg (by omega)]]
          refine w_rdR hR1.1.1.s0 hR1.1.1.r0 (w_vs hR1.1.1.s0 ((s_fond12 hN hR1.1.1 hR1.1.1.s1 (by omega) hw hb hR1.1.2.2.1 hA.2.2.2.2.2.1 (hR1.1.2.2.2.2.2.1 w hw) (by omega) (by omega)).bind (fun o ho => ?_)))
          rw [ho.1]
          have J1 := J0.trans (ho.2.mono (S' := ScM m) (fun a j z => by omega))
          have h11 : zgi o.2 m 10 = nI 0 := by rw [ho.2.gi (by omega)]; exact h10
          exact r_some (g1 := o.2) J1 ⟨hR1.1.keep hA ho.2 (fun a j z => by omega), hR1.2.keepM ho.2 (by omega) (fun j => by omega)⟩ h11
        · rw [if_pos (bI_eq (decide_eq_false h)), show wdA A p w 4 = 0 by unfold wdA; rw [if_neg (by omega), if_neg (by omega), if_neg h, if_pos rfl]]
          exact r_some J0 hR1 h10
  · refine ⟨none, ?_, fun g' hR => ?_⟩
    · unfold f_X11_word f_X11_word_15
      refine w_vs hL.s0 (w_eq (e_ip11 hC.1 hA) ?_)
      cases hv : rb v 0 (an A) with
      | false => rw [if_pos (bI_eq rfl)]; exact c_none hC
      | true => rw [if_neg (bI_ne rfl), e_iw11, Option.bind_some, if_pos (bI_eq (Bool.eq_false_iff.mpr (fun hu => hvu ⟨hv, hu⟩)))]; exact c_none hC
    · unfold f_X12_word f_X12_word_29
      refine r_start hR hA (fun g1 J0 hR1 h10 => ?_)
      refine w_vs hR1.1.1.s0 (w_eq (e_ip hR1.1 hA) ?_)
      cases hv : rb v 0 (an A) with
      | false => rw [if_pos (bI_eq rfl)]; exact r_lost (y := (0 : Int32)) (fun g => rfl) J0 hR1 hA
      | true =>
        rw [if_neg (bI_ne rfl), e_iw12, Option.bind_some, if_pos (bI_eq (Bool.eq_false_iff.mpr (fun hu => hvu ⟨hv, hu⟩)))]
        exact r_lost (y := (0 : Int32)) (fun g => rfl) J0 hR1 hA)
end WD
