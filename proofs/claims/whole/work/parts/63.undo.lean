/-! ===== undo ===== -/
theorem s_copyN {N : Nat} (hN : 10000 ≤ N) {g : ZS} {s t k d : Nat} {me : Nat → Nat} {B : Nat → ZB} (hs : SL (zh g) s) (ht : SL (zh g) t) (hd : s + 32 ≤ t ∨ t + 32 ≤ s) (hk : k ≤ 6) (hb : CS g t k d me B) (hI : SI k B) : zW (f_X6_copyFrom N s t g) (fun g' => zJ (Sn s k) g g' ∧ CS g' s k d me B) := by
  obtain ⟨a1, a2, a3, a4⟩ := hs.f
  obtain ⟨b1, b2, b3, b4⟩ := ht.f
  obtain ⟨c1, c2, c3⟩ := hb
  unfold f_X6_copyFrom
  simp (disch := omega) only [Option.bind_some, Option.map_some, Option.bind_none, Option.bind_fun_none, zrdI, zrdR, zwrI, zwrR, zwrZ, zvs, zald, zast, zlald, zlast, zaald, zlen, sh_sI, sh_sL, sh_sR, gr_sI, gr_sL, gi_sL, gi_sR, gl_sI, gl_sR, sz_sI, sz_sL, sz_sR, gi_sI, gl_sL, gr_sR, nar20, nar22_0, nar22_1, narb0, narb1, nI_clamp, zin_nI, nI_leI, nI_ltI, nI_eq, nI_add, nI_mul, nI_sub, nI_dec, nI_lt0, nI_0le, neg1_lt, neg1_le, neg1_ne, neg1_ne2, reduceIte, eq_self, ite_true, ite_false, true_and, and_true, or_true, true_or, and_self, Nat.reduceEqDiff, Nat.reduceAdd, Nat.reduceMul, Nat.reduceSub, Nat.add_zero, Nat.zero_add, bh_mk, bc_mk, bn_mk, bo_mk, bO_mk, bF_mk, bL_mk, bT_mk, if_pos, if_neg, ng_lt, ng_le, ng_lt2, ng_le2, ng_eq, ng_eq2, ng_nn, ng_dec, ng_dec0, sb_nle, sb_nlt, bI_0, bI_1, bI_t, bI_f, bI_nar, bitW_e, and_false, false_and, Nat.add_sub_cancel, if_false, if_true, c_0, c_1, c_2, c_3, c_4, c_5, c_6, c_7, c_8, c_9, c_10, c_11, c_12, c_13, c_16, c_17, c_20, c_24, c_28, c_36, c_37, c_39, c_40, c_41, c_42, c_43, c_45, c_47, c_48, c_49, c_57, c_59, c_60, c_61, c_62, c_80, c_81, c_97, c_99, c_100, c_104, c_107, c_109, c_115, c_116, c_120, c_216, c_217, c_255, c_256, c_1000, c_2000, c_9999, c_1000000, a1, a2, a3, b1, b2, b3, c1, c2]
  refine zW_forI (fun i g' => zJ (Sn s k) g g' ∧ zgi g' s 1 = nI k ∧ zgi g' s 2 = nI d ∧ ∀ p, p < i → CB g' (s + 2 + 5 * p) (B p) ∧ zgi g' (s + 2 + 5 * p) 5 = nI (me p)) k (fun i g' hi hI' => ?_) (fun g' hI' => ?_) (by omega) (Nat.zero_le _) ⟨(zJ.rfl.setI' ⟨by omega, by omega⟩).setI' ⟨by omega, by omega⟩, by simp (disch := omega) only [Option.bind_some, Option.map_some, Option.bind_none, Option.bind_fun_none, zrdI, zrdR, zwrI, zwrR, zwrZ, zvs, zald, zast, zlald, zlast, zaald, zlen, sh_sI, sh_sL, sh_sR, gr_sI, gr_sL, gi_sL, gi_sR, gl_sI, gl_sR, sz_sI, sz_sL, sz_sR, gi_sI, gl_sL, gr_sR, nar20, nar22_0, nar22_1, narb0, narb1, nI_clamp, zin_nI, nI_leI, nI_ltI, nI_eq, nI_add, nI_mul, nI_sub, nI_dec, nI_lt0, nI_0le, neg1_lt, neg1_le, neg1_ne, neg1_ne2, reduceIte, eq_self, ite_true, ite_false, true_and, and_true, or_true, true_or, and_self, Nat.reduceEqDiff, Nat.reduceAdd, Nat.reduceMul, Nat.reduceSub, Nat.add_zero, Nat.zero_add, bh_mk, bc_mk, bn_mk, bo_mk, bO_mk, bF_mk, bL_mk, bT_mk, if_pos, if_neg, ng_lt, ng_le, ng_lt2, ng_le2, ng_eq, ng_eq2, ng_nn, ng_dec, ng_dec0, sb_nle, sb_nlt, bI_0, bI_1, bI_t, bI_f, bI_nar, bitW_e, and_false, false_and, Nat.add_sub_cancel, if_false, if_true, c_0, c_1, c_2, c_3, c_4, c_5, c_6, c_7, c_8, c_9, c_10, c_11, c_12, c_13, c_16, c_17, c_20, c_24, c_28, c_36, c_37, c_39, c_40, c_41, c_42, c_43, c_45, c_47, c_48, c_49, c_57, c_59, c_60, c_61, c_62, c_80, c_81, c_97, c_99, c_100, c_104, c_107, c_109, c_115, c_116, c_120, c_216, c_217, c_255, c_256, c_1000, c_2000, c_9999, c_1000000], by simp (disch := omega) only [Option.bind_some, Option.map_some, Option.bind_none, Option.bind_fun_none, zrdI, zrdR, zwrI, zwrR, zwrZ, zvs, zald, zast, zlald, zlast, zaald, zlen, sh_sI, sh_sL, sh_sR, gr_sI, gr_sL, gi_sL, gi_sR, gl_sI, gl_sR, sz_sI, sz_sL, sz_sR, gi_sI, gl_sL, gr_sR, nar20, nar22_0, nar22_1, narb0, narb1, nI_clamp, zin_nI, nI_leI, nI_ltI, nI_eq, nI_add, nI_mul, nI_sub, nI_dec, nI_lt0, nI_0le, neg1_lt, neg1_le, neg1_ne, neg1_ne2, reduceIte, eq_self, ite_true, ite_false, true_and, and_true, or_true, true_or, and_self, Nat.reduceEqDiff, Nat.reduceAdd, Nat.reduceMul, Nat.reduceSub, Nat.add_zero, Nat.zero_add, bh_mk, bc_mk, bn_mk, bo_mk, bO_mk, bF_mk, bL_mk, bT_mk, if_pos, if_neg, ng_lt, ng_le, ng_lt2, ng_le2, ng_eq, ng_eq2, ng_nn, ng_dec, ng_dec0, sb_nle, sb_nlt, bI_0, bI_1, bI_t, bI_f, bI_nar, bitW_e, and_false, false_and, Nat.add_sub_cancel, if_false, if_true, c_0, c_1, c_2, c_3, c_4, c_5, c_6, c_7, c_8, c_9, c_10, c_11, c_12, c_13, c_16, c_17, c_20, c_24, c_28, c_36, c_37, c_39, c_40, c_41, c_42, c_43, c_45, c_47, c_48, c_49, c_57, c_59, c_60, c_61, c_62, c_80, c_81, c_97, c_99, c_100, c_104, c_107, c_109, c_115, c_116, c_120, c_216, c_217, c_255, c_256, c_1000, c_2000, c_9999, c_1000000], fun p hp => by omega⟩
  · obtain ⟨hJ, e1, e2, e3⟩ := hI'
    obtain ⟨p1, p2⟩ := a4 i (by omega)
    obtain ⟨p3, p4⟩ := b4 i (by omega)
    have f1 : BL (zh g') (s + 2 + 5 * i) := by rw [hJ.1]; exact p2
    have f2 : BL (zh g') (t + 2 + 5 * i) := by rw [hJ.1]; exact p4
    show zW (f_X6_copyFrom_18 N s t (nI i) g') _
    unfold f_X6_copyFrom_18
    simp (disch := omega) only [Option.bind_some, Option.map_some, Option.bind_none, Option.bind_fun_none, zrdI, zrdR, zwrI, zwrR, zwrZ, zvs, zald, zast, zlald, zlast, zaald, zlen, sh_sI, sh_sL, sh_sR, gr_sI, gr_sL, gi_sL, gi_sR, gl_sI, gl_sR, sz_sI, sz_sL, sz_sR, gi_sI, gl_sL, gr_sR, nar20, nar22_0, nar22_1, narb0, narb1, nI_clamp, zin_nI, nI_leI, nI_ltI, nI_eq, nI_add, nI_mul, nI_sub, nI_dec, nI_lt0, nI_0le, neg1_lt, neg1_le, neg1_ne, neg1_ne2, reduceIte, eq_self, ite_true, ite_false, true_and, and_true, or_true, true_or, and_self, Nat.reduceEqDiff, Nat.reduceAdd, Nat.reduceMul, Nat.reduceSub, Nat.add_zero, Nat.zero_add, bh_mk, bc_mk, bn_mk, bo_mk, bO_mk, bF_mk, bL_mk, bT_mk, if_pos, if_neg, ng_lt, ng_le, ng_lt2, ng_le2, ng_eq, ng_eq2, ng_nn, ng_dec, ng_dec0, sb_nle, sb_nlt, bI_0, bI_1, bI_t, bI_f, bI_nar, bitW_e, and_false, false_and, Nat.add_sub_cancel, if_false, if_true, c_0, c_1, c_2, c_3, c_4, c_5, c_6, c_7, c_8, c_9, c_10, c_11, c_12, c_13, c_16, c_17, c_20, c_24, c_28, c_36, c_37, c_39, c_40, c_41, c_42, c_43, c_45, c_47, c_48, c_49, c_57, c_59, c_60, c_61, c_62, c_80, c_81, c_97, c_99, c_100, c_104, c_107, c_109, c_115, c_116, c_120, c_216, c_217, c_255, c_256, c_1000, c_2000, c_9999, c_1000000, hJ.sh, hJ.gr, a1, a2, a3, b1, b2, b3, e1, p1, p3, p2.f.1, p4.f.1]
    have f3 : zgi g' (t + 2 + 5 * i) 5 = nI (me i) := by rw [hJ.gi (by rintro ⟨x1, x2⟩; omega)]; exact (c3 i hi).2
    refine (s_copyB f1 f2 (by omega) ((c3 i hi).1.keepJ hJ (fun a j x y => by have := x.1; have := x.2.1; have := y.1; have := y.2; omega)) (hI i hi) f3).bind (fun g5 h5 => ?_)
    obtain ⟨q1, q2, q3⟩ := h5
    rw [zW_some, zI_inl]
    refine ⟨rfl, hJ.trans (q1.mono (fun a j x => ⟨by omega, by omega⟩)), by rw [q1.gi (by omega)]; exact e1, by rw [q1.gi (by omega)]; exact e2, fun p hp => ?_⟩
    by_cases e : p = i
    · subst e; exact ⟨q2, q3⟩
    · obtain ⟨y1, y2⟩ := e3 p (by omega)
      exact ⟨y1.keepJ q1 (fun a j x y => by have := x.1; have := x.2.1; omega), by rw [q1.gi (by omega)]; exact y2⟩
  · obtain ⟨hJ, e1, e2, e3⟩ := hI'
    show zW (f_X6_copyFrom_18 N s t (nI k) g') _
    unfold f_X6_copyFrom_18
    simp (disch := omega) only [Option.bind_some, Option.map_some, Option.bind_none, Option.bind_fun_none, zrdI, zrdR, zwrI, zwrR, zwrZ, zvs, zald, zast, zlald, zlast, zaald, zlen, sh_sI, sh_sL, sh_sR, gr_sI, gr_sL, gi_sL, gi_sR, gl_sI, gl_sR, sz_sI, sz_sL, sz_sR, gi_sI, gl_sL, gr_sR, nar20, nar22_0, nar22_1, narb0, narb1, nI_clamp, zin_nI, nI_leI, nI_ltI, nI_eq, nI_add, nI_mul, nI_sub, nI_dec, nI_lt0, nI_0le, neg1_lt, neg1_le, neg1_ne, neg1_ne2, reduceIte, eq_self, ite_true, ite_false, true_and, and_true, or_true, true_or, and_self, Nat.reduceEqDiff, Nat.reduceAdd, Nat.reduceMul, Nat.reduceSub, Nat.add_zero, Nat.zero_add, bh_mk, bc_mk, bn_mk, bo_mk, bO_mk, bF_mk, bL_mk, bT_mk, if_pos, if_neg, ng_lt, ng_le, ng_lt2, ng_le2, ng_eq, ng_eq2, ng_nn, ng_dec, ng_dec0, sb_nle, sb_nlt, bI_0, bI_1, bI_t, bI_f, bI_nar, bitW_e, and_false, false_and, Nat.add_sub_cancel, if_false, if_true, c_0, c_1, c_2, c_3, c_4, c_5, c_6, c_7, c_8, c_9, c_10, c_11, c_12, c_13, c_16, c_17, c_20, c_24, c_28, c_36, c_37, c_39, c_40, c_41, c_42, c_43, c_45, c_47, c_48, c_49, c_57, c_59, c_60, c_61, c_62, c_80, c_81, c_97, c_99, c_100, c_104, c_107, c_109, c_115, c_116, c_120, c_216, c_217, c_255, c_256, c_1000, c_2000, c_9999, c_1000000, hJ.sh, hJ.gr, a1, a2, a3, b1, b2, b3, e1, zW_some, zI_inr]
    exact ⟨hJ, e1, e2, e3⟩
theorem split_last {α : Type} : ∀ l : List α, l = [] ∨ ∃ V u, l = V ++ [u]
  | [] => Or.inl rfl
  | a :: l => by
    rcases split_last l with h | ⟨V, u, h⟩
    · exact Or.inr ⟨[], a, by rw [h]; rfl⟩
    · exact Or.inr ⟨a :: V, u, by rw [h]; rfl⟩
theorem RB.from {g g' : ZS} {a a' k o : Nat} {b : ZB} (hb : RB g a (k + o) b) (h : ∀ i, o ≤ i → i < o + 36 → zgi g' a' i = zgi g a (k + i)) : RB g' a' o b := by
  obtain ⟨q1, q2, q3, q4, q5⟩ := hb
  refine ⟨(h o (by omega) (by omega)).trans q1, (h (o + 1) (by omega) (by omega)).trans q2, (h (o + 2) (by omega) (by omega)).trans q3, (h (o + 3) (by omega) (by omega)).trans q4, fun w hw => ?_⟩
  obtain ⟨y1, y2, y3, y4⟩ := q5 w hw
  rw [Nat.add_assoc] at y1 y2 y3 y4
  exact ⟨(h _ (by omega) (by omega)).trans y1, (h _ (by omega) (by omega)).trans y2, (h _ (by omega) (by omega)).trans y3, (h _ (by omega) (by omega)).trans y4⟩
theorem RS.from {g g' : ZS} {a a' k n d : Nat} {B : Nat → ZB} (hb : RS g a k n d B) (hn : n ≤ 6) (h : ∀ i, i < 217 → zgi g' a' i = zgi g a (k + i)) : RN g' a' n d B :=
  ⟨(h 216 (by omega)).trans hb.1, fun p hp => (hb.2 p hp).from (fun i h1 h2 => h i (by omega))⟩
section UN
variable {N x m c : Nat} {g g1 g2 : ZS} {A : ZA}
theorem k_undo (hN : 10000 ≤ N) : Call (fun x g => f_X11_undo N x g) (fun m g => f_X12_undo N m g) := call_s (fun x m c g A hC hA hc => by
  have n6 := hA.1.1
  have hU := hA.2.2.2.2.2.2.1
  rcases split_last (aU A) with h0 | ⟨V, ⟨B, d⟩, hV⟩
  · refine ⟨-1, A, hA.mono (Nat.le_succ c), ?_, fun g' hR => ?_⟩
    · have e1 := hC.1.2.2.2.2.2.2.1.1
      rw [h0] at e1
      have hb : f_X4_bringBack N (x + 87) (x + 23) g = some (0, g) := by
        unfold f_X4_bringBack
        rw [p_rdI hC.1.1.s87, Option.bind_some, e1, if_neg (show ¬ (0 : Int32) < nI ([] : List ZU).length by decide)]
      unfold Cc f_X11_undo f_X11_undo_25
      refine w_rdR hC.1.1.s0 hC.1.1.r0_8 (w_rdR hC.1.1.s0 hC.1.1.r0_6 (w_vs hC.1.1.s87 (w_eq hb ?_)))
      rw [if_pos rfl, zW_some]
      exact ⟨rfl, zX.rfl, hC⟩
    · unfold Rc f_X12_undo
      refine r_start hR hA (fun g1 J0 hR1 _ => ?_)
      have e1 := hR1.1.2.2.2.2.2.2.2.1.1
      rw [h0] at e1
      refine w_rdI hR1.1.1.s0 e1 ?_
      rw [if_pos (show nI ([] : List ZU).length = 0 from rfl), zW_some]
      exact ⟨rfl, J0.toX (fun a j z => scm_in z) (by omega), hR1⟩
  · have hl : (aU A).length = V.length + 1 := by rw [hV, List.length_append]; rfl
    have hg1 : ∀ i, i < V.length → (aU A).getD i u0 = V.getD i u0 := fun i hi => by rw [hV, getD_ap, if_pos hi]
    have hg2 : (aU A).getD V.length u0 = (B, d) := by rw [hV, getD_ap, if_neg (by omega), if_pos rfl]
    have hq := hU.2 V.length (by omega)
    rw [hg2] at hq
    have hV12 : V.length < 12 := by have := hU.1; omega
    have hAV : AI (sU A V) c := hA.setU ⟨by omega, fun i hi => by rw [← hg1 i hi]; exact hU.2 i (by omega)⟩
    refine ⟨nI V.length, sU (sS A B d) V, (AI.setSd (A := sU A V) hAV hq.1 hq.2).mono (Nat.le_succ c), ?_, fun g' hR => ?_⟩
    · unfold Cc f_X11_undo f_X11_undo_25
      have hL := hC.1.1
      obtain ⟨h11, σ, hσ, hin, hCS⟩ := hC.1.2.2.2.2.2.2.1
      obtain ⟨w1, w2⟩ := hσ V.length hV12
      rw [hl] at h11
      obtain ⟨g3, hg3⟩ : ∃ g3, g3 = zsetI g (x + 87) 1 (nI V.length) := ⟨_, rfl⟩
      have J3 : zJ (fun a j => a = x + 87 ∧ j = 1) g g3 := by rw [hg3]; exact zJ.setI ⟨rfl, rfl⟩
      have C3 : CJ x g3 (sU A V) := hC.1.setU hA (J3.mono (fun a j z => by omega)) ⟨by rw [hg3, gi_sI, if_pos ⟨rfl, rfl⟩], σ, fun i hi => ⟨(hσ i hi).1, by rw [J3.gr]; exact (hσ i hi).2⟩, hin, fun i hi => by rw [← hg1 i hi]; exact (hCS i (by omega)).keep n6 J3 (fun a j z => by have := z.1; have := z.2; have := (hσ i (by omega)).1; omega)⟩
      have S3 : CS g3 (x + 89 + 32 * σ V.length) (an A) d (ame A) B := by
        have := hCS V.length (by omega)
        rw [hg2] at this
        exact this.keep n6 J3 (fun a j z => by have := z.1; have := z.2; omega)
      refine w_rdR hL.s0 hL.r0_8 (w_rdR hL.s0 hL.r0_6 (w_vs hL.s87 ?_))
      have hb : zW (f_X4_bringBack N (x + 87) (x + 23) g) (fun o => o.1 = 1 ∧ zJ (Sn (x + 23) (an A)) g3 o.2 ∧ CS o.2 (x + 23) (an A) d (ame A) B) := by
        unfold f_X4_bringBack
        refine w_rdI hL.s87 h11 ?_
        rw [c_0, if_pos (nI_lt (by omega) (by omega))]
        refine w_rdI hL.s87 h11 ?_
        rw [c_1, nI_sub (by omega), Nat.add_sub_cancel, p_wrI hL.s87, Option.bind_some, ← hg3]
        refine w_rdR C3.1.s87 C3.1.r87_0 (w_rdI C3.1.s87 C3.2.2.2.2.2.2.1.1 ?_)
        rw [a26_12 C3.1.s88 hV12, show zgr g3 (x + 88) V.length = some (x + 89 + 32 * σ V.length) by rw [J3.gr]; exact w2, Option.bind_some]
        refine w_vs C3.1.SL23.f.1 ((s_copyN hN C3.1.SL23 (C3.1.past _ w1) (by omega) n6 S3 hq.1).bind (fun g7 h7 => ?_))
        rw [zW_some]
        exact ⟨rfl, h7.1, h7.2⟩
      refine hb.bind (fun o ho => ?_)
      obtain ⟨o1, J7, D7⟩ := ho
      rw [o1, if_neg (by decide)]
      refine w_rdR (by rw [J7.sh]; exact C3.1.s0) (by rw [J7.gr]; exact C3.1.r0_8) (w_rdI (by rw [J7.sh]; exact C3.1.s87) (show zgi o.2 (x + 87) 1 = nI V.length by rw [J7.gi (by omega)]; exact C3.2.2.2.2.2.2.1.1) ?_)
      rw [zW_some]
      refine ⟨rfl, (J3.toX (fun a j z => by omega)).trans (J7.toX (fun a j z => by have := z.1; have := z.2; omega)), C3.setS hAV (J7.mono (fun a j z => by have := z.1; have := z.2; omega)) ⟨D7, fun q h1 h2 => (C3.2.2.2.2.2.1.2 q h1 h2).keepJ J7 (fun a j z y => by have h1 : an A ≤ q := h1; have := z.1; have := z.2.1; have := y.1; have := y.2; omega)⟩, (hC.2.stay J3 (fun a j z => by omega)).stay J7 (fun a j z => by have := z.1; have := z.2; omega)⟩
    · unfold Rc f_X12_undo
      refine r_start hR hA (fun g1 J0 hR1 _ => ?_)
      obtain ⟨u1, u2, u3⟩ := hR1.1.2.2.2.2.2.2.2.1
      rw [hl] at u1
      have hL := hR1.1.1
      refine w_rdI hL.s0 u1 ?_
      rw [if_neg (fun h => by rw [c_0, nI_eq (by omega) (by omega)] at h; omega)]
      refine w_rdI hL.s0 u1 ?_
      rw [c_1, nI_sub (by omega), Nat.add_sub_cancel, p_wrI hL.s0, Option.bind_some]
      obtain ⟨g3, hg3⟩ : ∃ g3, g3 = zsetI g1 m 26 (nI V.length) := ⟨_, rfl⟩
      have J3 : zJ (fun a j => a = m ∧ j = 26) g1 g3 := by rw [hg3]; exact zJ.setI ⟨rfl, rfl⟩
      have R3 : RJ m g3 (sU A V) := hR1.1.setU hA ((J3.toM (m := m)).mono (fun a j z => by omega)) ⟨by rw [hg3, gi_sI, if_pos ⟨rfl, rfl⟩], by omega, fun i hi => by rw [← hg1 i hi]; exact (u3 i (by omega)).keepM n6 (J3.toM (m := m)) (fun j => by omega)⟩
      have S3 : RS g3 (m + 15) (217 * V.length) (an A) d B := by
        have := u3 V.length (by omega)
        rw [hg2] at this
        exact this.keepM n6 (J3.toM (m := m)) (fun j => by omega)
      rw [← hg3, c_0]
      refine zW_forI (fun i g' => zJ (fun a _ => a = m + 1) g3 g' ∧ ∀ j, j < i → zgi g' (m + 1) j = zgi g3 (m + 15) (217 * V.length + j)) 217 (fun i g4 hi hI => ?_) (fun g4 hI => ?_) (by omega) (Nat.zero_le _) ⟨zJ.rfl, fun j hj => by omega⟩
      · obtain ⟨J4, e4⟩ := hI
        show zW (f_X12_undo_26 N m (nI i) g4) _
        unfold f_X12_undo_26
        rw [c_217, if_neg (nI_ge hi (by omega))]
        refine w_rdR (by rw [J4.sh]; exact R3.1.s0) (by rw [J4.gr]; exact R3.1.r0) (w_rdR (by rw [J4.sh]; exact R3.1.s0) (by rw [J4.gr]; exact R3.1.r25) (w_rdI (by rw [J4.sh]; exact R3.1.s0) (show zgi g4 m 26 = nI V.length by rw [J4.gi (by omega)]; exact R3.2.2.2.2.2.2.2.1.1) ?_))
        rw [nI_mul, nI_add, p_ald (n := 2604) (by rw [J4.sh]; exact R3.1.s15) (by omega) (by decide), Option.bind_some, w20_217 (by rw [J4.sh]; exact R3.1.s1) hi, Option.bind_some, zW_some, zI_inl, c_1, nI_add]
        refine ⟨rfl, J4.setI' rfl, fun j hj => ?_⟩
        by_cases e : j = i
        · rw [e, gi_sI, if_pos ⟨rfl, rfl⟩, J4.gi (by omega)]
        · rw [gi_sI, if_neg (by omega)]; exact e4 j (by omega)
      · obtain ⟨J4, e4⟩ := hI
        show zW (f_X12_undo_26 N m (nI 217) g4) _
        unfold f_X12_undo_26
        rw [c_217, if_pos (nI_le (Nat.le_refl _) (by omega)), zW_map]
        refine w_rdI (by rw [J4.sh]; exact R3.1.s0) (show zgi g4 m 26 = nI V.length by rw [J4.gi (by omega)]; exact R3.2.2.2.2.2.2.2.1.1) ?_
        rw [zW_some]
        exact ⟨rfl, ((J0.toX (fun a j z => scm_in z) (by omega)).trans (J3.toX (fun a j z => by omega))).trans (J4.toX (fun a j z => by omega)), R3.setS hAV ((J4.toM (m := m)).mono (fun a j z => by omega)) (S3.from n6 e4), (hR1.2.keepM (J3.toM (m := m)) (by omega) (fun j => by omega)).keepM (J4.toM (m := m)) (by omega) (fun j => by omega)⟩)
end UN
