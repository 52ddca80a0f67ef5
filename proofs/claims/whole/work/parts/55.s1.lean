/-! ===== before, forget, note, strike, end ===== -/
section K5
variable {N : Nat}
theorem CL.add {S : Nat → Nat → Prop} {g g' : ZS} {s a b j p q : Nat} {P : List (Nat × Nat)} (h : CL g s a b j P) (e1 : zgi g' s j = nI (P.length + 1)) (e2 : ∀ i, zgi g' a i = if i = P.length then nI p else zgi g a i) (e3 : ∀ i, zgi g' b i = if i = P.length then nI q else zgi g b i) : CL g' s a b j (P ++ [(p, q)]) := by
  refine ⟨by rw [List.length_append, List.length_singleton]; exact e1, fun i hi => ?_⟩
  rw [List.length_append, List.length_singleton] at hi
  rw [getD_ap, e2, e3]
  by_cases e : i = P.length
  · rw [if_neg (show ¬ i < P.length by omega), if_pos e, if_pos e, if_pos e]; exact ⟨rfl, rfl⟩
  · rw [if_pos (show i < P.length by omega), if_neg e, if_neg e]; exact h.2 i (by omega)
theorem AI.setP {A : ZA} {c : Nat} {P : List (Nat × Nat)} (h : AI A c) (h1 : P.length ≤ 12) (h2 : ∀ i, i < P.length → (P.getD i e0).1 < 8 ∧ (P.getD i e0).2 < 8 ∧ (P.getD i e0).1 ≠ (P.getD i e0).2) : AI (sP A P) c := by
  obtain ⟨a1, a2, a3, a4, a5, a6, a7, a8, a9, a10⟩ := h
  exact ⟨a1, a2, a3, a4, a5, a6, a7, a8, ⟨h1, h2⟩, a10⟩
theorem AI.setN {A : ZA} {c : Nat} {P : List (Nat × Nat)} (h : AI A c) (h1 : P.length ≤ 12) (h2 : ∀ i, i < P.length → (P.getD i e0).1 < 5 ∧ (P.getD i e0).2 ≤ 8) : AI (sN A P) c := by
  obtain ⟨a1, a2, a3, a4, a5, a6, a7, a8, a9, a10⟩ := h
  exact ⟨a1, a2, a3, a4, a5, a6, a7, a8, a9, h1, h2⟩
theorem AI.setT {A : ZA} {c : Nat} {l : List Nat} (h : AI A c) (h1 : l.length ≤ 80) (h2 : ∀ p, l.getD p 0 < 256) : AI (sT A l) c := by
  obtain ⟨a1, a2, a3, a4, a5⟩ := h
  exact ⟨a1, a2, h1, h2, a5⟩
/-- nothing changes -/
theorem call_no {α : Type} {x m c : Nat} {g : ZS} {A : ZA} {tC : Option (α × ZS)} {tR : ZS → Option (α × ZS)} (a : α) (hC : CI x g A) (hA : AI A c) (h1 : tC = some (a, g)) (h2 : ∀ g', RI m g' A → QF m a (aR A) g' (tR g')) : ∃ (a : α) (A' : ZA), AI A' (c + 1) ∧ Cc x A' a g tC ∧ ∀ g', RI m g' A → Rc m A' a g' (tR g') :=
  ⟨a, A, hA.mono (Nat.le_succ c), zW.eq h1 ⟨rfl, zX.rfl, hC⟩, fun g' hR => (h2 g' hR).mono (fun o ho => ⟨ho.1, ho.2.1.toX (fun a j z => scm_in z) (by omega), hR.1.keep hA ho.2.1 (fun _ _ z => z), ho.2.2⟩)⟩
theorem call_s {α : Type} {fC fR : Nat → ZS → Option (α × ZS)} (h : ∀ (x m c : Nat) (g : ZS) (A : ZA), CI x g A → AI A c → c < 512 → ∃ (a : α) (A' : ZA), AI A' (c + 1) ∧ Cc x A' a g (fC x g) ∧ ∀ g', RI m g' A → Rc m A' a g' (fR m g')) : Call fC fR := h
/-- the row stays -/
theorem XR.stay {S : Nat → Nat → Prop} {x : Nat} {g g' : ZS} {l : List Int64} (h : XR g (x + 3) (x + 4) l) (hJ : zJ S g g') (hS : ∀ a j, S a j → x + 5 ≤ a ∨ a < x + 3) : XR g' (x + 3) (x + 4) l := h.keep hJ (fun z => by have := hS _ _ z; omega) (fun j z => by have := hS _ _ z; omega)
theorem k_before (v u : Int32) : Call (fun x g => f_X11_before x v u g) (fun m g => f_X12_before m v u g) := call_s (fun x m c g A hC hA hc => by
  have hP := hA.2.2.2.2.2.2.2.2.1
  by_cases hvu : (rb v 0 8 = true ∧ rb u 0 8 = true) ∧ v ≠ u ∧ (aP A).length < 12
  · obtain ⟨⟨hv, hu⟩, hne, h12⟩ := hvu
    obtain ⟨p, -, hp, rfl⟩ := rb_t hv (by omega)
    obtain ⟨q, -, hq, rfl⟩ := rb_t hu (by omega)
    have hpq : p ≠ q := fun e => hne (by rw [e])
    refine ⟨nI ((aP A).length + 1), sP A (aP A ++ [(p, q)]), (hA.setP (by rw [List.length_append, List.length_singleton]; omega) (fun i hi => ?_)).mono (Nat.le_succ c), ?_, fun g' hR => ?_⟩
    · rw [List.length_append, List.length_singleton] at hi
      rw [getD_ap]
      by_cases e : i = (aP A).length
      · rw [if_neg (by omega), if_pos e]; exact ⟨hp, hq, hpq⟩
      · rw [if_pos (by omega)]; exact hP.2 i (by omega)
    · have hL := hC.1.1
      have k1 := hC.1.2.2.2.2.2.2.2.2.1
      have e1 := k1.1
      unfold Cc f_X11_before f_X7_add f_X7_add_39
      rw [e_iw11, Option.bind_some, if_neg (bI_ne hv), e_iw11, Option.bind_some, if_neg (bI_ne hu), if_neg hne]
      simp (disch := omega) only [Option.bind_some, Option.map_some, Option.bind_none, Option.bind_fun_none, zrdI, zrdR, zwrI, zwrR, zwrZ, zvs, zald, zast, zlald, zlast, zaald, zlen, sh_sI, sh_sL, sh_sR, gr_sI, gr_sL, gi_sL, gi_sR, gl_sI, gl_sR, sz_sI, sz_sL, sz_sR, gi_sI, gl_sL, gr_sR, nar20, nar22_0, nar22_1, narb0, narb1, nI_clamp, zin_nI, nI_leI, nI_ltI, nI_eq, nI_add, nI_mul, nI_sub, nI_dec, nI_lt0, nI_0le, neg1_lt, neg1_le, neg1_ne, neg1_ne2, reduceIte, eq_self, ite_true, ite_false, true_and, and_true, or_true, true_or, and_self, Nat.reduceEqDiff, Nat.reduceAdd, Nat.reduceMul, Nat.reduceSub, Nat.add_zero, Nat.zero_add, bh_mk, bc_mk, bn_mk, bo_mk, bO_mk, bF_mk, bL_mk, bT_mk, if_pos, if_neg, ng_lt, ng_le, ng_lt2, ng_le2, ng_eq, ng_eq2, ng_nn, ng_dec, ng_dec0, sb_nle, sb_nlt, bI_0, bI_1, bI_t, bI_f, bI_nar, bitW_e, and_false, false_and, Nat.add_sub_cancel, if_false, if_true, c_0, c_1, c_2, c_3, c_4, c_5, c_6, c_7, c_8, c_9, c_10, c_11, c_12, c_13, c_16, c_17, c_20, c_24, c_28, c_36, c_37, c_39, c_40, c_41, c_42, c_43, c_45, c_47, c_48, c_49, c_57, c_59, c_60, c_61, c_62, c_80, c_81, c_97, c_99, c_100, c_104, c_107, c_109, c_115, c_116, c_120, c_216, c_217, c_255, c_256, c_1000, c_2000, c_9999, c_1000000, hL.s0, hL.r0_14, hL.s506, hL.s507, hL.s508, hL.r506_0, hL.r506_1, e1]
      rw [zW_some]
      have J : zJ (fun a j => a = x + 506 ∧ j = 5 ∨ a = x + 507 ∨ a = x + 508) g (zsetI (zsetI (zsetI g (x + 507) (aP A).length (nI p)) (x + 508) (aP A).length (nI q)) (x + 506) 5 (nI ((aP A).length + 1))) := ((zJ.rfl.setI' (by omega)).setI' (by omega)).setI' (by omega)
      refine ⟨rfl, J.toX (fun a j z => by omega), hC.1.setP hA (J.mono (fun a j z => Or.inr z)) (k1.add (S := Scr x) ?_ (fun i => ?_) (fun i => ?_)), hC.2.stay J (fun a j z => by omega)⟩
      · rw [gi_sI, if_pos ⟨rfl, rfl⟩]
      · simp only [gi_sI, Nat.add_left_cancel_iff, Nat.reduceEqDiff, false_and, if_false, true_and]
      · simp only [gi_sI, Nat.add_left_cancel_iff, Nat.reduceEqDiff, false_and, if_false, true_and]
    · unfold Rc f_X12_before
      refine r_start hR hA (fun g1 J0 hR1 _ => ?_)
      have hL := hR1.1.1
      have k1 := hR1.1.2.2.2.2.2.2.2.2.2.1
      have e1 := k1.1
      rw [e_iw12, Option.bind_some, if_neg (bI_ne hv), e_iw12, Option.bind_some, if_neg (bI_ne hu), if_neg hne]
      simp (disch := omega) only [Option.bind_some, Option.map_some, Option.bind_none, Option.bind_fun_none, zrdI, zrdR, zwrI, zwrR, zwrZ, zvs, zald, zast, zlald, zlast, zaald, zlen, sh_sI, sh_sL, sh_sR, gr_sI, gr_sL, gi_sL, gi_sR, gl_sI, gl_sR, sz_sI, sz_sL, sz_sR, gi_sI, gl_sL, gr_sR, nar20, nar22_0, nar22_1, narb0, narb1, nI_clamp, zin_nI, nI_leI, nI_ltI, nI_eq, nI_add, nI_mul, nI_sub, nI_dec, nI_lt0, nI_0le, neg1_lt, neg1_le, neg1_ne, neg1_ne2, reduceIte, eq_self, ite_true, ite_false, true_and, and_true, or_true, true_or, and_self, Nat.reduceEqDiff, Nat.reduceAdd, Nat.reduceMul, Nat.reduceSub, Nat.add_zero, Nat.zero_add, bh_mk, bc_mk, bn_mk, bo_mk, bO_mk, bF_mk, bL_mk, bT_mk, if_pos, if_neg, ng_lt, ng_le, ng_lt2, ng_le2, ng_eq, ng_eq2, ng_nn, ng_dec, ng_dec0, sb_nle, sb_nlt, bI_0, bI_1, bI_t, bI_f, bI_nar, bitW_e, and_false, false_and, Nat.add_sub_cancel, if_false, if_true, c_0, c_1, c_2, c_3, c_4, c_5, c_6, c_7, c_8, c_9, c_10, c_11, c_12, c_13, c_16, c_17, c_20, c_24, c_28, c_36, c_37, c_39, c_40, c_41, c_42, c_43, c_45, c_47, c_48, c_49, c_57, c_59, c_60, c_61, c_62, c_80, c_81, c_97, c_99, c_100, c_104, c_107, c_109, c_115, c_116, c_120, c_216, c_217, c_255, c_256, c_1000, c_2000, c_9999, c_1000000, hL.s0, hL.s23, hL.s24, hL.r34, hL.r35, e1]
      rw [zW_some]
      have J : zJ (fun a j => a = m ∧ j = 36 ∨ a = m + 23 ∨ a = m + 24) g1 (zsetI (zsetI (zsetI g1 (m + 23) (aP A).length (nI p)) (m + 24) (aP A).length (nI q)) m 36 (nI ((aP A).length + 1))) := ((zJ.rfl.setI' (by omega)).setI' (by omega)).setI' (by omega)
      refine ⟨rfl, (J0.toX (fun a j z => scm_in z) (by omega)).trans (J.toX (fun a j z => by omega)), hR1.1.setP hA ((J.toM (m := m)).mono (fun a j z => Or.inr z)) (k1.add (S := Scr x) ?_ (fun i => ?_) (fun i => ?_)), hR1.2.keepM (J.toM (m := m)) (by omega) (fun j => by omega)⟩
      · rw [gi_sI, if_pos ⟨rfl, rfl⟩]
      · rw [gi_sI, if_neg (by omega), gi_sI, if_neg (by omega), gi_sI]; simp only [true_and]
      · rw [gi_sI, if_neg (by omega), gi_sI]; simp only [true_and]; split
        · rfl
        · rw [gi_sI, if_neg (by omega)]
  · refine call_no (-1 : Int32) hC hA ?_ (fun g' hR => ?_)
    · have hL := hC.1.1
      have e1 := hC.1.2.2.2.2.2.2.2.2.1.1
      unfold f_X11_before f_X11_before_31
      rw [e_iw11, Option.bind_some]
      cases hv : rb v 0 8 with
      | false => rw [if_pos (bI_eq rfl)]
      | true =>
        rw [if_neg (bI_ne rfl), e_iw11, Option.bind_some]
        cases hu : rb u 0 8 with
        | false => rw [if_pos (bI_eq rfl)]
        | true =>
          rw [if_neg (bI_ne rfl)]
          by_cases hne : v = u
          · rw [if_pos hne]
          · rw [if_neg hne, p_rdR hL.s0, hL.r0_14, Option.bind_some, p_rdI hL.s506, Option.bind_some, e1, c_12, if_neg (nI_nlt (by have : ¬ (aP A).length < 12 := fun h => hvu ⟨⟨hv, hu⟩, hne, h⟩; omega) (by omega))]
    · unfold QF f_X12_before f_X12_before_33
      refine r_start hR hA (fun g1 J0 hR1 _ => ?_)
      have hL := hR1.1.1
      have e1 := hR1.1.2.2.2.2.2.2.2.2.2.1.1
      have fin : zW (some ((-1 : Int32), g1)) (fun o => o.1 = -1 ∧ zM m (ScM m) g' o.2 ∧ RW o.2 m (aR A)) := zW_some.mpr ⟨rfl, J0, hR1.2⟩
      rw [e_iw12, Option.bind_some]
      cases hv : rb v 0 8 with
      | false => rw [if_pos (bI_eq rfl)]; exact fin
      | true =>
        rw [if_neg (bI_ne rfl), e_iw12, Option.bind_some]
        cases hu : rb u 0 8 with
        | false => rw [if_pos (bI_eq rfl)]; exact fin
        | true =>
          rw [if_neg (bI_ne rfl)]
          by_cases hne : v = u
          · rw [if_pos hne]; exact fin
          · have : (aP A).length = 12 := by
              have : ¬ (aP A).length < 12 := fun h => hvu ⟨⟨hv, hu⟩, hne, h⟩
              have := hP.1; omega
            rw [if_neg hne, p_rdI hL.s0, Option.bind_some, e1, this, if_pos (show nI 12 = 12 from rfl)]; exact fin)
theorem k_forget : Call (fun x g => f_X11_forget x g) (fun m g => f_X12_forget m g) := call_s (fun x m c g A hC hA hc => by
  refine ⟨nI (aP A).length, sP A [], (hA.setP (by simp) (fun i hi => absurd hi (by simp))).mono (Nat.le_succ c), ?_, fun g' hR => ?_⟩
  · have hL := hC.1.1
    unfold Cc f_X11_forget
    refine w_rdR hL.s0 hL.r0_14 (w_rdI hL.s506 hC.1.2.2.2.2.2.2.2.2.1.1 (w_rdR hL.s0 hL.r0_14 ?_))
    rw [p_wrI hL.s506, Option.bind_some, zW_some]
    have J : zJ (fun a j => a = x + 506 ∧ j = 5 ∨ a = x + 507 ∨ a = x + 508) g (zsetI g (x + 506) 5 0) := zJ.setI (by omega)
    exact ⟨rfl, J.toX (fun a j z => by omega), hC.1.setP hA (J.mono (fun a j z => Or.inr z)) ⟨by rw [gi_sI, if_pos ⟨rfl, rfl⟩]; rfl, fun i hi => absurd hi (by simp)⟩, hC.2.stay J (fun a j z => by omega)⟩
  · unfold Rc f_X12_forget
    refine r_start hR hA (fun g1 J0 hR1 _ => ?_)
    have hL := hR1.1.1
    refine w_rdI hL.s0 hR1.1.2.2.2.2.2.2.2.2.2.1.1 ?_
    rw [p_wrI hL.s0, Option.bind_some, zW_some]
    have J : zJ (fun a j => a = m ∧ j = 36 ∨ a = m + 23 ∨ a = m + 24) g1 (zsetI g1 m 36 0) := zJ.setI (by omega)
    exact ⟨rfl, (J0.toX (fun a j z => scm_in z) (by omega)).trans (J.toX (fun a j z => by omega)), hR1.1.setP hA ((J.toM (m := m)).mono (fun a j z => Or.inr z)) ⟨by rw [gi_sI, if_pos ⟨rfl, rfl⟩]; rfl, fun i hi => absurd hi (by simp)⟩, hR1.2.keepM (J.toM (m := m)) (by omega) (fun j => by omega)⟩)
theorem k_strike : Call (fun x g => f_X11_strike x g) (fun m g => f_X12_strike m g) := call_s (fun x m c g A hC hA hc => by
  refine ⟨nI (aN A).length, sN A [], (hA.setN (by simp) (fun i hi => absurd hi (by simp))).mono (Nat.le_succ c), ?_, fun g' hR => ?_⟩
  · have hL := hC.1.1
    unfold Cc f_X11_strike
    refine w_rdR hL.s0 hL.r0_15 (w_rdI hL.s512 hC.1.2.2.2.2.2.2.2.2.2.1 (w_rdR hL.s0 hL.r0_15 ?_))
    rw [p_wrI hL.s512, Option.bind_some, zW_some]
    have J : zJ (fun a j => a = x + 512 ∧ j = 2 ∨ a = x + 513 ∨ a = x + 514) g (zsetI g (x + 512) 2 0) := zJ.setI (by omega)
    exact ⟨rfl, J.toX (fun a j z => by omega), hC.1.setN hA (J.mono (fun a j z => Or.inr z)) ⟨by rw [gi_sI, if_pos ⟨rfl, rfl⟩]; rfl, fun i hi => absurd hi (by simp)⟩, hC.2.stay J (fun a j z => by omega)⟩
  · unfold Rc f_X12_strike
    refine r_start hR hA (fun g1 J0 hR1 _ => ?_)
    have hL := hR1.1.1
    refine w_rdI hL.s0 hR1.1.2.2.2.2.2.2.2.2.2.2.1 ?_
    rw [p_wrI hL.s0, Option.bind_some, zW_some]
    have J : zJ (fun a j => a = m ∧ j = 41 ∨ a = m + 27 ∨ a = m + 28) g1 (zsetI g1 m 41 0) := zJ.setI (by omega)
    exact ⟨rfl, (J0.toX (fun a j z => scm_in z) (by omega)).trans (J.toX (fun a j z => by omega)), hR1.1.setN hA ((J.toM (m := m)).mono (fun a j z => Or.inr z)) ⟨by rw [gi_sI, if_pos ⟨rfl, rfl⟩]; rfl, fun i hi => absurd hi (by simp)⟩, hR1.2.keepM (J.toM (m := m)) (by omega) (fun j => by omega)⟩)
/-! what can be noted -/
def cbn (v u : Int32) : Bool := (rb v 0 5) && (if v = 3 then rb u 1 9 else if v = 2 then rb u 0 4 else rb u 0 8)
theorem e_cbn {v u : Int32} : f_X11_canBeNoted v u = some (bI (cbn v u)) := by
  unfold cbn
  cases hv : rb v 0 5 with
  | true =>
    obtain ⟨k, -, hk, rfl⟩ := rb_t hv (by omega)
    rw [Bool.true_and]
    have hw : f_X11_canBeNoted_36 u = some (bI (rb u 0 8)) := by
      unfold f_X11_canBeNoted_36
      rw [e_iw11, Option.bind_some, if_pos bI_nar]
    rcases (show k = 0 ∨ k = 1 ∨ k = 2 ∨ k = 3 ∨ k = 4 by omega) with rfl | rfl | rfl | rfl | rfl
    · exact hw
    · exact hw
    · show ((f_X11_isHouse u).bind fun v1 => if vp_nar .boolean v1 = v1 then some v1 else none) = some (bI (rb u 0 4))
      rw [e_ih11, Option.bind_some, if_pos bI_nar]
    · show (if u < (1 : Int32) then f_X11_canBeNoted_61 else if (8 : Int32) < u then f_X11_canBeNoted_61 else f_X11_canBeNoted_62 (1 : Int32)) = some (bI (rb u 1 9))
      rw [c_1, c_8, rngA (by omega) (by omega)]
      cases rb u 1 (8 + 1) <;> rfl
    · exact hw
  | false =>
    have n0 : ¬ v = 0 := rb_ne (k := 0) hv (by omega) (by omega)
    have n1 : ¬ v = 1 := rb_ne (k := 1) hv (by omega) (by omega)
    have n2 : ¬ v = 2 := rb_ne (k := 2) hv (by omega) (by omega)
    have n3 : ¬ v = 3 := rb_ne (k := 3) hv (by omega) (by omega)
    have n4 : ¬ v = 4 := rb_ne (k := 4) hv (by omega) (by omega)
    unfold f_X11_canBeNoted
    simp only [zcase, if_neg n0, if_neg n1, if_neg n2, if_neg n3, if_neg n4]
    rfl
theorem k_note (v u : Int32) : Call (fun x g => f_X11_note x v u g) (fun m g => f_X12_note m v u g) := call_s (fun x m c g A hC hA hc => by
  have hP := hA.2.2.2.2.2.2.2.2.2
  have href : ∀ g1, f_X12_note_25 m v u u (if v = 3 then 1 else 0) g1 = f_X12_note_46 m v u u (if v = 3 then 1 else 0) (if v = 2 then 3 else if v = 3 then 8 else 7) g1 := by
    intro g1
    unfold f_X12_note_25
    by_cases h2 : v = 2
    · simp only [if_pos h2]
    · by_cases h3 : v = 3
      · simp only [if_neg h2, if_pos h3]
      · simp only [if_neg h2, if_neg h3]
  have href2 : ∀ g1, (if v = 3 then f_X12_note_25 m v u u 1 g1 else f_X12_note_25 m v u u 0 g1) = f_X12_note_46 m v u u (if v = 3 then 1 else 0) (if v = 2 then 3 else if v = 3 then 8 else 7) g1 := by
    intro g1
    rw [← href]
    by_cases h3 : v = 3
    · rw [if_pos h3, if_pos h3]
    · rw [if_neg h3, if_neg h3]
  have hin : f_X12_in u (if v = 3 then 1 else 0) (if v = 2 then 3 else if v = 3 then 8 else 7) = some (bI (if v = 3 then rb u 1 9 else if v = 2 then rb u 0 4 else rb u 0 8)) := by
    by_cases h3 : v = 3
    · subst h3
      exact e_in (lo := 1) (hi := 8) (by omega) (by omega)
    · by_cases h2 : v = 2
      · simp only [if_neg h3, if_pos h2]; exact e_in (lo := 0) (hi := 3) (by omega) (by omega)
      · simp only [if_neg h3, if_neg h2]; exact e_in (lo := 0) (hi := 7) (by omega) (by omega)
  by_cases hvu : cbn v u = true ∧ (aN A).length < 12
  · obtain ⟨hcb, h12⟩ := hvu
    have hcb' := hcb
    unfold cbn at hcb'
    rw [Bool.and_eq_true] at hcb'
    obtain ⟨hv, hu⟩ := hcb'
    obtain ⟨p, -, hp, hpe⟩ := rb_t hv (by omega)
    obtain ⟨q, hq, hqe⟩ : ∃ q, q ≤ 8 ∧ u = nI q := by
      split at hu
      · obtain ⟨q, -, h, e⟩ := rb_t hu (by omega); exact ⟨q, by omega, e⟩
      · split at hu
        · obtain ⟨q, -, h, e⟩ := rb_t hu (by omega); exact ⟨q, by omega, e⟩
        · obtain ⟨q, -, h, e⟩ := rb_t hu (by omega); exact ⟨q, by omega, e⟩
    refine ⟨nI ((aN A).length + 1), sN A (aN A ++ [(p, q)]), (hA.setN (by rw [List.length_append, List.length_singleton]; omega) (fun i hi => ?_)).mono (Nat.le_succ c), ?_, fun g' hR => ?_⟩
    · rw [List.length_append, List.length_singleton] at hi
      rw [getD_ap]
      by_cases e : i = (aN A).length
      · rw [if_neg (by omega), if_pos e]; exact ⟨hp, hq⟩
      · rw [if_pos (by omega)]; exact hP.2 i (by omega)
    · have hL := hC.1.1
      have k1 := hC.1.2.2.2.2.2.2.2.2.2
      have e1 := k1.1
      unfold Cc f_X11_note f_X3_add f_X3_add_39
      refine w_rdR hL.s0 hL.r0_15 (w_rdI hL.s512 e1 ?_)
      rw [c_12, if_neg (nI_ge h12 (by omega)), e_cbn, Option.bind_some, if_neg (bI_ne hcb), hpe, hqe]
      simp (disch := omega) only [Option.bind_some, Option.map_some, Option.bind_none, Option.bind_fun_none, zrdI, zrdR, zwrI, zwrR, zwrZ, zvs, zald, zast, zlald, zlast, zaald, zlen, sh_sI, sh_sL, sh_sR, gr_sI, gr_sL, gi_sL, gi_sR, gl_sI, gl_sR, sz_sI, sz_sL, sz_sR, gi_sI, gl_sL, gr_sR, nar20, nar22_0, nar22_1, narb0, narb1, nI_clamp, zin_nI, nI_leI, nI_ltI, nI_eq, nI_add, nI_mul, nI_sub, nI_dec, nI_lt0, nI_0le, neg1_lt, neg1_le, neg1_ne, neg1_ne2, reduceIte, eq_self, ite_true, ite_false, true_and, and_true, or_true, true_or, and_self, Nat.reduceEqDiff, Nat.reduceAdd, Nat.reduceMul, Nat.reduceSub, Nat.add_zero, Nat.zero_add, bh_mk, bc_mk, bn_mk, bo_mk, bO_mk, bF_mk, bL_mk, bT_mk, if_pos, if_neg, ng_lt, ng_le, ng_lt2, ng_le2, ng_eq, ng_eq2, ng_nn, ng_dec, ng_dec0, sb_nle, sb_nlt, bI_0, bI_1, bI_t, bI_f, bI_nar, bitW_e, and_false, false_and, Nat.add_sub_cancel, if_false, if_true, c_0, c_1, c_2, c_3, c_4, c_5, c_6, c_7, c_8, c_9, c_10, c_11, c_12, c_13, c_16, c_17, c_20, c_24, c_28, c_36, c_37, c_39, c_40, c_41, c_42, c_43, c_45, c_47, c_48, c_49, c_57, c_59, c_60, c_61, c_62, c_80, c_81, c_97, c_99, c_100, c_104, c_107, c_109, c_115, c_116, c_120, c_216, c_217, c_255, c_256, c_1000, c_2000, c_9999, c_1000000, hL.s0, hL.r0_15, hL.s512, hL.s513, hL.s514, hL.r512_0, hL.r512_1, e1]
      rw [zW_some]
      have J : zJ (fun a j => a = x + 512 ∧ j = 2 ∨ a = x + 513 ∨ a = x + 514) g (zsetI (zsetI (zsetI g (x + 513) (aN A).length (nI p)) (x + 514) (aN A).length (nI q)) (x + 512) 2 (nI ((aN A).length + 1))) := ((zJ.rfl.setI' (by omega)).setI' (by omega)).setI' (by omega)
      refine ⟨rfl, J.toX (fun a j z => by omega), hC.1.setN hA (J.mono (fun a j z => Or.inr z)) (k1.add (S := Scr x) ?_ (fun i => ?_) (fun i => ?_)), hC.2.stay J (fun a j z => by omega)⟩
      · rw [gi_sI, if_pos ⟨rfl, rfl⟩]
      · simp only [gi_sI, Nat.add_left_cancel_iff, Nat.reduceEqDiff, false_and, if_false, true_and]
      · simp only [gi_sI, Nat.add_left_cancel_iff, Nat.reduceEqDiff, false_and, if_false, true_and]
    · unfold Rc f_X12_note
      refine r_start hR hA (fun g1 J0 hR1 _ => ?_)
      have hL := hR1.1.1
      have k1 := hR1.1.2.2.2.2.2.2.2.2.2.2
      have e1 := k1.1
      rw [c_4, e_inz (by omega), Option.bind_some, if_neg (bI_ne hv), href2]
      unfold f_X12_note_46
      rw [hin, Option.bind_some, if_neg (bI_ne hu), hpe, hqe]
      simp (disch := omega) only [Option.bind_some, Option.map_some, Option.bind_none, Option.bind_fun_none, zrdI, zrdR, zwrI, zwrR, zwrZ, zvs, zald, zast, zlald, zlast, zaald, zlen, sh_sI, sh_sL, sh_sR, gr_sI, gr_sL, gi_sL, gi_sR, gl_sI, gl_sR, sz_sI, sz_sL, sz_sR, gi_sI, gl_sL, gr_sR, nar20, nar22_0, nar22_1, narb0, narb1, nI_clamp, zin_nI, nI_leI, nI_ltI, nI_eq, nI_add, nI_mul, nI_sub, nI_dec, nI_lt0, nI_0le, neg1_lt, neg1_le, neg1_ne, neg1_ne2, reduceIte, eq_self, ite_true, ite_false, true_and, and_true, or_true, true_or, and_self, Nat.reduceEqDiff, Nat.reduceAdd, Nat.reduceMul, Nat.reduceSub, Nat.add_zero, Nat.zero_add, bh_mk, bc_mk, bn_mk, bo_mk, bO_mk, bF_mk, bL_mk, bT_mk, if_pos, if_neg, ng_lt, ng_le, ng_lt2, ng_le2, ng_eq, ng_eq2, ng_nn, ng_dec, ng_dec0, sb_nle, sb_nlt, bI_0, bI_1, bI_t, bI_f, bI_nar, bitW_e, and_false, false_and, Nat.add_sub_cancel, if_false, if_true, c_0, c_1, c_2, c_3, c_4, c_5, c_6, c_7, c_8, c_9, c_10, c_11, c_12, c_13, c_16, c_17, c_20, c_24, c_28, c_36, c_37, c_39, c_40, c_41, c_42, c_43, c_45, c_47, c_48, c_49, c_57, c_59, c_60, c_61, c_62, c_80, c_81, c_97, c_99, c_100, c_104, c_107, c_109, c_115, c_116, c_120, c_216, c_217, c_255, c_256, c_1000, c_2000, c_9999, c_1000000, hL.s0, hL.s27, hL.s28, hL.r39, hL.r40, e1]
      rw [zW_some]
      have J : zJ (fun a j => a = m ∧ j = 41 ∨ a = m + 27 ∨ a = m + 28) g1 (zsetI (zsetI (zsetI g1 (m + 27) (aN A).length (nI p)) (m + 28) (aN A).length (nI q)) m 41 (nI ((aN A).length + 1))) := ((zJ.rfl.setI' (by omega)).setI' (by omega)).setI' (by omega)
      refine ⟨rfl, (J0.toX (fun a j z => scm_in z) (by omega)).trans (J.toX (fun a j z => by omega)), hR1.1.setN hA ((J.toM (m := m)).mono (fun a j z => Or.inr z)) (k1.add (S := Scr x) ?_ (fun i => ?_) (fun i => ?_)), hR1.2.keepM (J.toM (m := m)) (by omega) (fun j => by omega)⟩
      · rw [gi_sI, if_pos ⟨rfl, rfl⟩]
      · rw [gi_sI, if_neg (by omega), gi_sI, if_neg (by omega), gi_sI]; simp only [true_and]
      · rw [gi_sI, if_neg (by omega), gi_sI]; simp only [true_and]; split
        · rfl
        · rw [gi_sI, if_neg (by omega)]
  · refine call_no (-1 : Int32) hC hA ?_ (fun g' hR => ?_)
    · have hL := hC.1.1
      have e1 := hC.1.2.2.2.2.2.2.2.2.2.1
      unfold f_X11_note f_X11_note_20
      rw [p_rdR hL.s0, hL.r0_15, Option.bind_some, p_rdI hL.s512, Option.bind_some, e1, c_12]
      by_cases h12 : (aN A).length < 12
      · rw [if_neg (nI_ge h12 (by omega)), e_cbn, Option.bind_some, if_pos (bI_eq (Bool.eq_false_iff.mpr (fun h => hvu ⟨h, h12⟩)))]
      · rw [if_pos (nI_le (by omega) (by omega))]
    · unfold QF f_X12_note f_X12_note_61
      refine r_start hR hA (fun g1 J0 hR1 _ => ?_)
      have hL := hR1.1.1
      have e1 := hR1.1.2.2.2.2.2.2.2.2.2.2.1
      have fin : zW (some ((-1 : Int32), g1)) (fun o => o.1 = -1 ∧ zM m (ScM m) g' o.2 ∧ RW o.2 m (aR A)) := zW_some.mpr ⟨rfl, J0, hR1.2⟩
      rw [c_4, e_inz (by omega), Option.bind_some]
      cases hv : rb v 0 (4 + 1) with
      | false => rw [if_pos (bI_eq rfl)]; exact fin
      | true =>
        rw [if_neg (bI_ne rfl), href2]
        unfold f_X12_note_46 f_X12_note_61
        rw [hin, Option.bind_some]
        cases hu : (if v = 3 then rb u 1 9 else if v = 2 then rb u 0 4 else rb u 0 8) with
        | false => rw [if_pos (bI_eq rfl)]; exact fin
        | true =>
          have hcb : cbn v u = true := by unfold cbn; rw [hv, hu]; rfl
          have : (aN A).length = 12 := by
            have : ¬ (aN A).length < 12 := fun h => hvu ⟨hcb, h⟩
            have := hP.1; omega
          rw [if_neg (bI_ne rfl), p_rdI hL.s0, Option.bind_some, e1, this, if_pos (show nI 12 = 12 from rfl)]; exact fin)
/-! the end of the text -/
theorem take_lt {l : List Nat} {n p : Nat} (h : ∀ p, l.getD p 0 < 256) : (l.take n).getD p 0 < 256 := by
  by_cases e : p < n
  · rw [getD_take e]; exact h p
  · rw [getD_ge (by rw [List.length_take]; omega)]; omega
theorem k_end (v : Int32) : Call (fun x g => f_X11_end x v g) (fun m g => f_X12_end m v g) := call_s (fun x m c g A hC hA hc => by
  have h80 := hA.2.2.1
  cases hv : rb v 0 ((aT A).length + 1) with
  | true =>
    obtain ⟨n, -, hn, rfl⟩ := rb_t hv (by omega)
    have hl : ((aT A).take n).length = n := by rw [List.length_take]; omega
    refine ⟨nI 1, sT A ((aT A).take n), (hA.setT (by omega) (fun p => take_lt hA.2.2.2.1)).mono (Nat.le_succ c), ?_, fun g' hR => ?_⟩
    · have hL := hC.1.1
      obtain ⟨t1, t2, t3, t4, t5, t6⟩ := hC.1.2.1
      unfold Cc f_X11_end
      rw [c_0, if_neg (show ¬ nI n < nI 0 from nI_pos (by omega))]
      refine w_rdR hL.s0 hL.r0_0 (w_rdI hL.s1 t4 ?_)
      rw [if_pos (nI_le (by omega) (by omega))]
      refine w_rdR hL.s0 hL.r0_0 ?_
      rw [p_wrI hL.s1, Option.bind_some, zW_some]
      have J : zJ (fun a j => a = x + 1 ∧ j = 1 ∨ a = x + 2) g (zsetI g (x + 1) 1 (nI n)) := zJ.setI (by omega)
      exact ⟨rfl, J.toX (fun a j z => by omega), hC.1.setT hA (J.mono (fun a j z => Or.inr z)) ⟨t1, t2, t3, by rw [gi_sI, if_pos ⟨rfl, rfl⟩, hl], by omega, fun j hj => by rw [gi_sI, if_neg (by omega), getD_take (by omega)]; exact t6 j (by omega)⟩, hC.2.stay J (fun a j z => by omega)⟩
    · unfold Rc f_X12_end
      refine r_start hR hA (fun g1 J0 hR1 _ => ?_)
      have hL := hR1.1.1
      obtain ⟨t1, t2, t3⟩ := hR1.1.2.2.2.1
      refine w_rdI hL.s0 t1 ?_
      rw [e_inz (by omega), Option.bind_some, if_neg (bI_ne hv), p_wrI hL.s0, Option.bind_some, zW_some]
      have J : zJ (fun a j => a = m ∧ j = 7 ∨ a = m + 6) g1 (zsetI g1 m 7 (nI n)) := zJ.setI (by omega)
      exact ⟨rfl, (J0.toX (fun a j z => scm_in z) (by omega)).trans (J.toX (fun a j z => by omega)), hR1.1.setT hA ((J.toM (m := m)).mono (fun a j z => Or.inr z)) ⟨by rw [gi_sI, if_pos ⟨rfl, rfl⟩, hl], by omega, fun j hj => by rw [gi_sI, if_neg (by omega), getD_take (by omega)]; exact t3 j (by omega)⟩, hR1.2.keepM (J.toM (m := m)) (by omega) (fun j => by omega)⟩
  | false =>
    refine call_no (nI 0) hC hA ?_ (fun g' hR => ?_)
    · have hL := hC.1.1
      have t4 := hC.1.2.1.2.2.2.1
      unfold f_X11_end f_X11_end_15
      rw [p_rdR hL.s0, hL.r0_0, Option.bind_some, p_rdI hL.s1, Option.bind_some, t4, c_0]
      rcases rb_f hv (by omega) (by omega) with h | h
      · rw [if_pos h]
      · rw [if_neg (Int32.not_le.mpr ((lt_s1 (by omega)).mpr h))]
        split <;> rfl
    · unfold QF f_X12_end
      refine r_start hR hA (fun g1 J0 hR1 _ => ?_)
      refine w_rdI hR1.1.1.s0 hR1.1.2.2.2.1.1 ?_
      rw [e_inz (by omega), Option.bind_some, if_pos (bI_eq hv), zW_some]
      exact ⟨rfl, J0, hR1.2⟩)
end K5
