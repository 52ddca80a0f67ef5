/-! ===== says, place, soonest, unsaid ===== -/
section K1
variable {N : Nat}
theorem r_start {m c : Nat} {g : ZS} {A : ZA} {β : Type} {Q : β → Prop} {k : ZS → Option β} (hR : RI m g A) (hA : AI A c) (hk : ∀ g1, zM m (ScM m) g g1 → RI m g1 A → zgi g1 m 10 = nI 0 → zW (k g1) Q) : zW ((zwrI g m 12 10 (0 : Int32)).bind k) Q := by
  rw [p_wrI hR.1.1.s0, Option.bind_some]
  exact hk _ ((zJ.setI (S := ScM m) (Or.inl ⟨rfl, by omega⟩)).toM) ⟨hR.1.thrown0 hA, hR.2.thrown0⟩ (by rw [gi_sI, if_pos ⟨rfl, rfl⟩]; rfl)
theorem e_ip {m c : Nat} {g : ZS} {A : ZA} {v : Int32} (hR : RJ m g A) (hA : AI A c) : f_X12_isParrot m v g = some (bI (rb v 0 (an A))) := e_ip12 hR.1.s0 hR.2.2.2.2.2.2.1.1 (by have := hA.1.1; omega)
theorem bI_ne {b : Bool} (h : b = true) : ¬ bI b = 0 := by subst h; decide
theorem bI_eq {b : Bool} (h : b = false) : bI b = 0 := by subst h; rfl
theorem say_len {A : ZA} {p : Nat} : (sayA A (aB A p) (ame A p)).length ≤ 8 := says_len
theorem sayA_lt {A : ZA} {b : ZB} {me j : Nat} (hj : j < (sayA A b me).length) : (sayA A b me).getD j 0 < 8 ∧ 0 < bO b ((sayA A b me).getD j 0) := by
  have h := hj
  unfold sayA says at h
  rw [List.length_take] at h
  unfold sayA says
  rw [getD_take (by omega)]
  exact sayL_lt 8 _ (getD_mem (by omega))
theorem k_says (hN : 10000 ≤ N) (v : Int32) : Call (fun x g => f_X11_says N x v g) (fun m g => f_X12_says N m v g) := call_q (fun x m c g A hC hA hc => by
  have n6 := hA.1.1
  cases hv : rb v 0 (an A) with
  | false =>
    refine ⟨-1, aR A, hA.2.2.2.2.1, ?_, fun g' hR => ?_⟩
    · unfold QC f_X11_says
      rw [p_vs hC.1.1.s0, e_ip11 hC.1 hA, Option.bind_some, if_pos (bI_eq hv), zW_some]
      exact ⟨rfl, zJ.rfl, hC.2⟩
    · unfold QF f_X12_says
      refine r_start hR hA (fun g1 J0 hR1 _ => ?_)
      rw [p_vs hR1.1.1.s0, e_ip hR1.1 hA, Option.bind_some, if_pos (bI_eq hv), zW_some]
      exact ⟨rfl, J0, hR1.2⟩
  | true =>
    obtain ⟨p, -, hp, rfl⟩ := rb_t hv (by omega)
    refine ⟨nI (sayA A (aB A p) (ame A p)).length, (sayA A (aB A p) (ame A p)).map wL, by rw [List.length_map]; exact say_len, ?_, fun g' hR => ?_⟩
    · unfold QC f_X11_says
      rw [p_vs hC.1.1.s0, e_ip11 hC.1 hA, Option.bind_some, if_neg (bI_ne hv)]
      refine c_say hN hC.1 hA hp (Or.inl ⟨rfl, rfl⟩) (fun g1 J1 T1 C1 => ?_)
      rw [p_vs C1.1.s0]
      refine (c_tellWords hN C1 hA T1).bind (fun o ho => ?_)
      rw [zW_some]
      exact ⟨ho.1, (J1.mono (fun a j z => by omega)).trans (ho.2.1.mono (fun a j z => by omega)), ho.2.2⟩
    · unfold QF f_X12_says
      refine r_start hR hA (fun g1 J0 hR1 _ => ?_)
      rw [p_vs hR1.1.1.s0, e_ip hR1.1 hA, Option.bind_some, if_neg (bI_ne hv), p_rdR hR1.1.1.s0, hR1.1.1.r0, Option.bind_some, p_rdR hR1.1.1.s0, hR1.1.1.r22, Option.bind_some]
      refine r_say hN hR1.1 hA (Or.inl rfl) hp (fun g2 J2 T2 R2 => ?_)
      dsimp only
      rw [p_rdR R2.1.s0, R2.1.r22, Option.bind_some, p_vs R2.1.s0]
      refine (s_tellList hN R2.1 R2.1.s12 say_len T2 (by omega)).bind (fun g3 h3 => ?_)
      rw [zW_some]
      exact ⟨rfl, (J0.trans (J2.mono (fun a j z => by omega))).trans ((h3.1.toM (m := m)).mono (fun a j z => by omega)), h3.2⟩)
/-! the place of a word -/
def ix (l : List Nat) (w : Nat) : Nat := zleast (fun i => decide (l.getD i 0 = w)) l.length 0
theorem ix_le {l : List Nat} {w : Nat} : ix l w ≤ l.length := zleast_le _ _
theorem e_placeOf {g : ZS} {T w : Nat} {l : List Nat} (hN : 10000 ≤ N) (hT : TL (zh g) T) (h : TS g T l) (hw : w < 9) : f_X10_placeOf N T (nI w) g = some (if ix l w < l.length then nI (ix l w) else -nI 1) := by
  obtain ⟨t1, t2, t3, t4, t5, t6, t7, t8⟩ := hT.f
  obtain ⟨k1, k2, k3⟩ := h
  unfold f_X10_placeOf
  rw [c_0]
  refine loopL _ (fun i => nI i) (-nI 1) l.length (fun i hi => ?_) ?_ (by omega)
  · obtain ⟨e1, e2⟩ := k3 i hi
    by_cases e : l.getD i 0 = w
    · rw [decide_eq_true e, if_pos rfl]
      simp (disch := omega) only [Option.bind_some, Option.map_some, Option.bind_none, Option.bind_fun_none, zrdI, zrdR, zwrI, zwrR, zwrZ, zvs, zald, zast, zlald, zlast, zaald, zlen, sh_sI, sh_sL, sh_sR, gr_sI, gr_sL, gi_sL, gi_sR, gl_sI, gl_sR, sz_sI, sz_sL, sz_sR, gi_sI, gl_sL, gr_sR, nar20, nar22_0, nar22_1, narb0, narb1, nI_clamp, zin_nI, nI_leI, nI_ltI, nI_eq, nI_add, nI_mul, nI_sub, nI_dec, nI_lt0, nI_0le, neg1_lt, neg1_le, neg1_ne, neg1_ne2, reduceIte, eq_self, ite_true, ite_false, true_and, and_true, or_true, true_or, and_self, Nat.reduceEqDiff, Nat.reduceAdd, Nat.reduceMul, Nat.reduceSub, Nat.add_zero, Nat.zero_add, bh_mk, bc_mk, bn_mk, bo_mk, bO_mk, bF_mk, bL_mk, bT_mk, if_pos, if_neg, ng_lt, ng_le, ng_lt2, ng_le2, ng_eq, ng_eq2, ng_nn, ng_dec, ng_dec0, sb_nle, sb_nlt, bI_0, bI_1, bI_t, bI_f, bI_nar, bitW_e, and_false, false_and, Nat.add_sub_cancel, if_false, if_true, c_0, c_1, c_2, c_3, c_4, c_5, c_6, c_7, c_8, c_9, c_10, c_11, c_12, c_13, c_16, c_17, c_20, c_24, c_28, c_36, c_37, c_39, c_40, c_41, c_42, c_43, c_45, c_47, c_48, c_49, c_57, c_59, c_60, c_61, c_62, c_80, c_81, c_97, c_99, c_100, c_104, c_107, c_109, c_115, c_116, c_120, c_216, c_217, c_255, c_256, c_1000, c_2000, c_9999, c_1000000, f_X10_placeOf_2, t1, t2, t5, k1, e1, e]
    · rw [decide_eq_false e]
      simp (disch := omega) only [Option.bind_some, Option.map_some, Option.bind_none, Option.bind_fun_none, zrdI, zrdR, zwrI, zwrR, zwrZ, zvs, zald, zast, zlald, zlast, zaald, zlen, sh_sI, sh_sL, sh_sR, gr_sI, gr_sL, gi_sL, gi_sR, gl_sI, gl_sR, sz_sI, sz_sL, sz_sR, gi_sI, gl_sL, gr_sR, nar20, nar22_0, nar22_1, narb0, narb1, nI_clamp, zin_nI, nI_leI, nI_ltI, nI_eq, nI_add, nI_mul, nI_sub, nI_dec, nI_lt0, nI_0le, neg1_lt, neg1_le, neg1_ne, neg1_ne2, reduceIte, eq_self, ite_true, ite_false, true_and, and_true, or_true, true_or, and_self, Nat.reduceEqDiff, Nat.reduceAdd, Nat.reduceMul, Nat.reduceSub, Nat.add_zero, Nat.zero_add, bh_mk, bc_mk, bn_mk, bo_mk, bO_mk, bF_mk, bL_mk, bT_mk, if_pos, if_neg, ng_lt, ng_le, ng_lt2, ng_le2, ng_eq, ng_eq2, ng_nn, ng_dec, ng_dec0, sb_nle, sb_nlt, bI_0, bI_1, bI_t, bI_f, bI_nar, bitW_e, and_false, false_and, Nat.add_sub_cancel, if_false, if_true, c_0, c_1, c_2, c_3, c_4, c_5, c_6, c_7, c_8, c_9, c_10, c_11, c_12, c_13, c_16, c_17, c_20, c_24, c_28, c_36, c_37, c_39, c_40, c_41, c_42, c_43, c_45, c_47, c_48, c_49, c_57, c_59, c_60, c_61, c_62, c_80, c_81, c_97, c_99, c_100, c_104, c_107, c_109, c_115, c_116, c_120, c_216, c_217, c_255, c_256, c_1000, c_2000, c_9999, c_1000000, f_X10_placeOf_2, t1, t2, t5, k1, e1, Bool.false_eq_true]
  · simp (disch := omega) only [Option.bind_some, Option.map_some, Option.bind_none, Option.bind_fun_none, zrdI, zrdR, zwrI, zwrR, zwrZ, zvs, zald, zast, zlald, zlast, zaald, zlen, sh_sI, sh_sL, sh_sR, gr_sI, gr_sL, gi_sL, gi_sR, gl_sI, gl_sR, sz_sI, sz_sL, sz_sR, gi_sI, gl_sL, gr_sR, nar20, nar22_0, nar22_1, narb0, narb1, nI_clamp, zin_nI, nI_leI, nI_ltI, nI_eq, nI_add, nI_mul, nI_sub, nI_dec, nI_lt0, nI_0le, neg1_lt, neg1_le, neg1_ne, neg1_ne2, reduceIte, eq_self, ite_true, ite_false, true_and, and_true, or_true, true_or, and_self, Nat.reduceEqDiff, Nat.reduceAdd, Nat.reduceMul, Nat.reduceSub, Nat.add_zero, Nat.zero_add, bh_mk, bc_mk, bn_mk, bo_mk, bO_mk, bF_mk, bL_mk, bT_mk, if_pos, if_neg, ng_lt, ng_le, ng_lt2, ng_le2, ng_eq, ng_eq2, ng_nn, ng_dec, ng_dec0, sb_nle, sb_nlt, bI_0, bI_1, bI_t, bI_f, bI_nar, bitW_e, and_false, false_and, Nat.add_sub_cancel, if_false, if_true, c_0, c_1, c_2, c_3, c_4, c_5, c_6, c_7, c_8, c_9, c_10, c_11, c_12, c_13, c_16, c_17, c_20, c_24, c_28, c_36, c_37, c_39, c_40, c_41, c_42, c_43, c_45, c_47, c_48, c_49, c_57, c_59, c_60, c_61, c_62, c_80, c_81, c_97, c_99, c_100, c_104, c_107, c_109, c_115, c_116, c_120, c_216, c_217, c_255, c_256, c_1000, c_2000, c_9999, c_1000000, f_X10_placeOf_2, t1, k1]
theorem r_placeOf {m c a p w : Nat} {g : ZS} {A : ZA} {b : ZB} (hN : 10000 ≤ N) (hR : RJ m g A) (hA : AI A c) (ha : a = m + 1 ∨ a = m + 17) (hp : p < an A) (hb : RB g a (36 * p) b) (hI : BI b) (hw : w < 9) : zW (f_X12_placeOf N m a (nI p) (nI w) g) (fun o => o.1 = (if ix (sayA A b (ame A p)) w < (sayA A b (ame A p)).length then nI (ix (sayA A b (ame A p)) w) else -nI 2) ∧ zM m (SY m (m + 12)) g o.2) := by
  unfold f_X12_placeOf
  rw [p_rdR hR.1.s0, hR.1.r22, Option.bind_some, p_vs hR.1.s0]
  refine (r_says hN hR hA ha (Or.inl rfl) hp hb hI).bind (fun o ho => ?_)
  obtain ⟨z, g2⟩ := o
  obtain ⟨o1, J, T⟩ := ho
  dsimp only at o1 J T
  subst o1
  have R2 := hR.1.M J
  have hl : (sayA A b (ame A p)).length ≤ 8 := says_len
  have hlt := fun j hj => sayA_lt (A := A) (b := b) (me := ame A p) (j := j) hj
  generalize sayA A b (ame A p) = l at *
  rw [c_0]
  have hloop : zloop (fun s => f_X12_placeOf_15 N m (nI w) (nI l.length) s g2) N (nI 0) = some (if ix l w < l.length then (nI (ix l w), g2) else (-nI 2, g2)) := loopL (body := fun s => f_X12_placeOf_15 N m (nI w) (nI l.length) s g2) (fun i => decide (l.getD i 0 = w)) (fun i => (nI i, g2)) (-nI 2, g2) l.length (fun i hi => ?_) ?_ (N := N) (by omega)
  · refine zW.eq hloop ?_
    by_cases e : ix l w < l.length
    · rw [if_pos e, if_pos e]; exact ⟨rfl, J⟩
    · rw [if_neg e, if_neg e]; exact ⟨rfl, J⟩
  · have e1 := T i hi
    have e2 := (hlt i hi).1
    have r22 := R2.r22
    have s12 := R2.s12
    have s0 := R2.s0
    by_cases e : l.getD i 0 = w
    · rw [decide_eq_true e, if_pos rfl]
      simp (disch := omega) only [Option.bind_some, Option.map_some, Option.bind_none, Option.bind_fun_none, zrdI, zrdR, zwrI, zwrR, zwrZ, zvs, zald, zast, zlald, zlast, zaald, zlen, sh_sI, sh_sL, sh_sR, gr_sI, gr_sL, gi_sL, gi_sR, gl_sI, gl_sR, sz_sI, sz_sL, sz_sR, gi_sI, gl_sL, gr_sR, nar20, nar22_0, nar22_1, narb0, narb1, nI_clamp, zin_nI, nI_leI, nI_ltI, nI_eq, nI_add, nI_mul, nI_sub, nI_dec, nI_lt0, nI_0le, neg1_lt, neg1_le, neg1_ne, neg1_ne2, reduceIte, eq_self, ite_true, ite_false, true_and, and_true, or_true, true_or, and_self, Nat.reduceEqDiff, Nat.reduceAdd, Nat.reduceMul, Nat.reduceSub, Nat.add_zero, Nat.zero_add, bh_mk, bc_mk, bn_mk, bo_mk, bO_mk, bF_mk, bL_mk, bT_mk, if_pos, if_neg, ng_lt, ng_le, ng_lt2, ng_le2, ng_eq, ng_eq2, ng_nn, ng_dec, ng_dec0, sb_nle, sb_nlt, bI_0, bI_1, bI_t, bI_f, bI_nar, bitW_e, and_false, false_and, Nat.add_sub_cancel, if_false, if_true, c_0, c_1, c_2, c_3, c_4, c_5, c_6, c_7, c_8, c_9, c_10, c_11, c_12, c_13, c_16, c_17, c_20, c_24, c_28, c_36, c_37, c_39, c_40, c_41, c_42, c_43, c_45, c_47, c_48, c_49, c_57, c_59, c_60, c_61, c_62, c_80, c_81, c_97, c_99, c_100, c_104, c_107, c_109, c_115, c_116, c_120, c_216, c_217, c_255, c_256, c_1000, c_2000, c_9999, c_1000000, f_X12_placeOf_15, s0, s12, r22, e1, e]
    · rw [decide_eq_false e]
      simp (disch := omega) only [Option.bind_some, Option.map_some, Option.bind_none, Option.bind_fun_none, zrdI, zrdR, zwrI, zwrR, zwrZ, zvs, zald, zast, zlald, zlast, zaald, zlen, sh_sI, sh_sL, sh_sR, gr_sI, gr_sL, gi_sL, gi_sR, gl_sI, gl_sR, sz_sI, sz_sL, sz_sR, gi_sI, gl_sL, gr_sR, nar20, nar22_0, nar22_1, narb0, narb1, nI_clamp, zin_nI, nI_leI, nI_ltI, nI_eq, nI_add, nI_mul, nI_sub, nI_dec, nI_lt0, nI_0le, neg1_lt, neg1_le, neg1_ne, neg1_ne2, reduceIte, eq_self, ite_true, ite_false, true_and, and_true, or_true, true_or, and_self, Nat.reduceEqDiff, Nat.reduceAdd, Nat.reduceMul, Nat.reduceSub, Nat.add_zero, Nat.zero_add, bh_mk, bc_mk, bn_mk, bo_mk, bO_mk, bF_mk, bL_mk, bT_mk, if_pos, if_neg, ng_lt, ng_le, ng_lt2, ng_le2, ng_eq, ng_eq2, ng_nn, ng_dec, ng_dec0, sb_nle, sb_nlt, bI_0, bI_1, bI_t, bI_f, bI_nar, bitW_e, and_false, false_and, Nat.add_sub_cancel, if_false, if_true, c_0, c_1, c_2, c_3, c_4, c_5, c_6, c_7, c_8, c_9, c_10, c_11, c_12, c_13, c_16, c_17, c_20, c_24, c_28, c_36, c_37, c_39, c_40, c_41, c_42, c_43, c_45, c_47, c_48, c_49, c_57, c_59, c_60, c_61, c_62, c_80, c_81, c_97, c_99, c_100, c_104, c_107, c_109, c_115, c_116, c_120, c_216, c_217, c_255, c_256, c_1000, c_2000, c_9999, c_1000000, f_X12_placeOf_15, s0, s12, r22, e1, Bool.false_eq_true]
  · simp (disch := omega) only [Option.bind_some, Option.map_some, Option.bind_none, Option.bind_fun_none, zrdI, zrdR, zwrI, zwrR, zwrZ, zvs, zald, zast, zlald, zlast, zaald, zlen, sh_sI, sh_sL, sh_sR, gr_sI, gr_sL, gi_sL, gi_sR, gl_sI, gl_sR, sz_sI, sz_sL, sz_sR, gi_sI, gl_sL, gr_sR, nar20, nar22_0, nar22_1, narb0, narb1, nI_clamp, zin_nI, nI_leI, nI_ltI, nI_eq, nI_add, nI_mul, nI_sub, nI_dec, nI_lt0, nI_0le, neg1_lt, neg1_le, neg1_ne, neg1_ne2, reduceIte, eq_self, ite_true, ite_false, true_and, and_true, or_true, true_or, and_self, Nat.reduceEqDiff, Nat.reduceAdd, Nat.reduceMul, Nat.reduceSub, Nat.add_zero, Nat.zero_add, bh_mk, bc_mk, bn_mk, bo_mk, bO_mk, bF_mk, bL_mk, bT_mk, if_pos, if_neg, ng_lt, ng_le, ng_lt2, ng_le2, ng_eq, ng_eq2, ng_nn, ng_dec, ng_dec0, sb_nle, sb_nlt, bI_0, bI_1, bI_t, bI_f, bI_nar, bitW_e, and_false, false_and, Nat.add_sub_cancel, if_false, if_true, c_0, c_1, c_2, c_3, c_4, c_5, c_6, c_7, c_8, c_9, c_10, c_11, c_12, c_13, c_16, c_17, c_20, c_24, c_28, c_36, c_37, c_39, c_40, c_41, c_42, c_43, c_45, c_47, c_48, c_49, c_57, c_59, c_60, c_61, c_62, c_80, c_81, c_97, c_99, c_100, c_104, c_107, c_109, c_115, c_116, c_120, c_216, c_217, c_255, c_256, c_1000, c_2000, c_9999, c_1000000, f_X12_placeOf_15]
theorem k_place (hN : 10000 ≤ N) (v u : Int32) : Call (fun x g => f_X11_place N x v u g) (fun m g => f_X12_place N m v u g) := call_q (fun x m c g A hC hA hc => by
  have n6 := hA.1.1
  by_cases hvu : rb v 0 (an A) = true ∧ rb u 0 8 = true
  · obtain ⟨hv, hu⟩ := hvu
    obtain ⟨p, -, hp, rfl⟩ := rb_t hv (by omega)
    obtain ⟨w, -, hw, rfl⟩ := rb_t hu (by omega)
    refine ⟨if ix (sayA A (aB A p) (ame A p)) w < (sayA A (aB A p) (ame A p)).length then nI (ix (sayA A (aB A p) (ame A p)) w) else -nI 2, aR A, hA.2.2.2.2.1, ?_, fun g' hR => ?_⟩
    · unfold QC f_X11_place f_X11_place_61
      rw [p_vs hC.1.1.s0, e_ip11 hC.1 hA, Option.bind_some, if_neg (bI_ne hv), e_iw11, Option.bind_some, if_neg (bI_ne hu)]
      refine c_say hN hC.1 hA hp (Or.inl ⟨rfl, rfl⟩) (fun g1 J1 T1 C1 => ?_)
      rw [p_rdR C1.1.s0, C1.1.r0_12, Option.bind_some, p_vs C1.1.TL480.f.1, e_placeOf hN C1.1.TL480 T1 (by omega), Option.bind_some]
      have hx : ix (sayA A (aB A p) (ame A p)) w ≤ (sayA A (aB A p) (ame A p)).length := ix_le
      have hl : (sayA A (aB A p) (ame A p)).length ≤ 8 := say_len
      have hX := hC.2.keep (J1.mono (S' := fun a j => x + 5 ≤ a) (fun a j z => by omega)) (by omega) (fun j => by omega)
      by_cases e : ix (sayA A (aB A p) (ame A p)) w < (sayA A (aB A p) (ame A p)).length
      · rw [if_pos e, if_pos e, if_neg (show ¬ nI _ = -1 from fun h => by rw [show (-1 : Int32) = -nI 1 from rfl, ng_eq (by omega) (by omega)] at h; omega), zW_some]
        exact ⟨rfl, J1.mono (fun a j z => by omega), hX⟩
      · rw [if_neg e, if_neg e, if_pos (show -nI 1 = -1 from rfl), zW_some]
        exact ⟨rfl, J1.mono (fun a j z => by omega), hX⟩
    · unfold QF f_X12_place f_X12_place_34
      refine r_start hR hA (fun g1 J0 hR1 _ => ?_)
      rw [p_vs hR1.1.1.s0, e_ip hR1.1 hA, Option.bind_some, if_neg (bI_ne hv), e_iw12, Option.bind_some, if_neg (bI_ne hu), p_rdR hR1.1.1.s0, hR1.1.1.r0, Option.bind_some, p_vs hR1.1.1.s0]
      refine (r_placeOf hN hR1.1 hA (Or.inl rfl) hp (hR1.1.2.2.2.2.2.2.1.2.2.2 p hp) (hA.1.2.2.1 p hp) (by omega)).bind (fun o ho => ?_)
      rw [zW_some]
      exact ⟨ho.1, J0.trans (ho.2.mono (fun a j z => by omega)), hR1.2.keepM ho.2 (by omega) (fun j => by omega)⟩
  · refine ⟨-1, aR A, hA.2.2.2.2.1, ?_, fun g' hR => ?_⟩
    · unfold QC f_X11_place f_X11_place_15
      rw [p_vs hC.1.1.s0, e_ip11 hC.1 hA, Option.bind_some]
      cases hv : rb v 0 (an A) with
      | false =>
        rw [if_pos (bI_eq rfl), zW_some]
        exact ⟨rfl, zJ.rfl, hC.2⟩
      | true =>
        rw [if_neg (bI_ne rfl), e_iw11, Option.bind_some, if_pos (bI_eq (Bool.eq_false_iff.mpr (fun h => hvu ⟨hv, h⟩))), zW_some]
        exact ⟨rfl, zJ.rfl, hC.2⟩
    · unfold QF f_X12_place f_X12_place_33 f_X12_place_34
      refine r_start hR hA (fun g1 J0 hR1 _ => ?_)
      rw [p_vs hR1.1.1.s0, e_ip hR1.1 hA, Option.bind_some]
      cases hv : rb v 0 (an A) with
      | false =>
        rw [if_pos (bI_eq rfl), zW_some]
        exact ⟨rfl, J0, hR1.2⟩
      | true =>
        rw [if_neg (bI_ne rfl), e_iw12, Option.bind_some, if_pos (bI_eq (Bool.eq_false_iff.mpr (fun h => hvu ⟨hv, h⟩))), zW_some]
        exact ⟨rfl, J0, hR1.2⟩)
end K1
