/-! ===== said, count, rests ===== -/
section K3
variable {N : Nat}
theorem e_inz {v : Int32} {hi : Nat} (hh : hi + 1 < 2 ^ 31) : f_X12_in v (0 : Int32) (nI hi) = some (bI (rb v 0 (hi + 1))) := e_in (lo := 0) (by omega) hh
theorem bnd {A : ZA} {c : Nat} (hA : AI A c) (hc : c < 512) : ad A ≤ 200000 := by have := hA.1.2.2.2; omega
theorem k_said (v u : Int32) : Call (fun x g => (f_X11_said x v u g).map (fun a => (a, g))) (fun m g => f_X12_said m v u g) := call_q (fun x m c g A hC hA hc => by
  have n6 := hA.1.1
  have hd := bnd hA hc
  have hH := hA.2.1.2
  by_cases hvu : rb v 0 4 = true ∧ rb u 0 (99 + 1) = true
  · obtain ⟨hv, hu⟩ := hvu
    obtain ⟨h, -, hh, rfl⟩ := rb_t hv (by omega)
    obtain ⟨n, -, hn, rfl⟩ := rb_t hu (by omega)
    refine ⟨nI (wdOn (aH A) h (ad A + n)), aR A, hA.2.2.2.2.1, ?_, fun g' hR => ?_⟩
    · unfold QC f_X11_said
      have hXl : XHl g (x + 5) := by
        refine ⟨hC.1.1.s5, hC.1.1.s6, hC.1.1.r5_0, hC.1.1.r5_1, hC.1.1.s11, fun k hk => ?_⟩
        rcases (show k = 0 ∨ k = 1 ∨ k = 2 ∨ k = 3 by omega) with rfl | rfl | rfl | rfl
        · exact ⟨hC.1.1.r6_0, hC.1.1.s7⟩
        · exact ⟨hC.1.1.r6_1, hC.1.1.s8⟩
        · exact ⟨hC.1.1.r6_2, hC.1.1.s9⟩
        · exact ⟨hC.1.1.r6_3, hC.1.1.s10⟩
      rw [zW_map, e_ih11]
      refine w_eq rfl ?_
      rw [if_neg (bI_ne hv), c_0, c_99, rngB (by omega) (by omega), if_pos hu]
      refine w_rdR hC.1.1.s0 hC.1.1.r0_2 (w_rdR hC.1.1.s0 hC.1.1.r0_6 (w_rdI hC.1.1.SL23.f.1 hC.1.2.2.2.2.2.1.1.2.1 (w_vs hC.1.1.s5 ?_)))
      rw [nI_add]
      refine w_eq (e_wordOn hXl hC.1.2.2.1 hH hh (by omega)) ?_
      rw [zW_some]
      exact ⟨rfl, zJ.rfl, hC.2⟩
    · unfold QF f_X12_said f_X12_said_41
      refine r_start hR hA (fun g1 J0 hR1 _ => ?_)
      rw [e_ih12, Option.bind_some, if_neg (bI_ne hv), c_99, e_inz (by omega), Option.bind_some, if_neg (bI_ne hu)]
      refine w_rdR hR1.1.1.s0 hR1.1.1.r0 ?_
      rw [c_216, a20_217 hR1.1.1.s1 (by omega), hR1.1.2.2.2.2.2.2.1.2.2.1, Option.bind_some, nI_add]
      refine w_vs hR1.1.1.s0 (w_eq (e_saidOn hR1.1.1 hR1.1.2.2.2.2.1 hH hh (by omega)) ?_)
      rw [zW_some]
      exact ⟨rfl, J0, hR1.2⟩
  · refine ⟨-1, aR A, hA.2.2.2.2.1, ?_, fun g' hR => ?_⟩
    · unfold QC f_X11_said f_X11_said_17
      rw [zW_map, e_ih11]
      refine w_eq rfl ?_
      cases hv : rb v 0 4 with
      | false =>
        rw [if_pos (bI_eq rfl), zW_some]
        exact ⟨rfl, zJ.rfl, hC.2⟩
      | true =>
        rw [if_neg (bI_ne rfl), c_0, c_99, rngB (by omega) (by omega), if_neg (fun h => hvu ⟨hv, h⟩), zW_some]
        exact ⟨rfl, zJ.rfl, hC.2⟩
    · unfold QF f_X12_said f_X12_said_40 f_X12_said_41
      refine r_start hR hA (fun g1 J0 hR1 _ => ?_)
      rw [e_ih12, Option.bind_some]
      cases hv : rb v 0 4 with
      | false =>
        rw [if_pos (bI_eq rfl), zW_some]
        exact ⟨rfl, J0, hR1.2⟩
      | true =>
        rw [if_neg (bI_ne rfl), c_99, e_inz (by omega), Option.bind_some, if_pos (bI_eq (Bool.eq_false_iff.mpr (fun h => hvu ⟨hv, h⟩))), zW_some]
        exact ⟨rfl, J0, hR1.2⟩)
/-! those under a cloth, those who spoke -/
def clA (A : ZA) (k : Nat) : Int32 := zfold (fun p acc => acc ||| (if bc (aB A p) = 0 then nI 0 else bitW p)) k (nI 0)
def spA (A : ZA) (k : Nat) : Int32 := zfold (fun p acc => acc ||| (if bo (aB A p) = 0 then nI 0 else bitW p)) k (nI 0)
theorem shl0 : ∀ p, p < 31 → nI 0 <<< (nI p &&& 31) = nI 0 := by decide +kernel
theorem e_covered {x c : Nat} {g : ZS} {A : ZA} (hN : 10000 ≤ N) (hC : CJ x g A) (hA : AI A c) : f_X6_covered N (x + 23) g = some (clA A (an A)) := by
  have n6 := hA.1.1
  have h1 := hC.1.SL23.f.1
  have h2 := hC.1.SL23.f.2.1
  have h3 := hC.1.SL23.f.2.2.1
  have h4 := hC.2.2.2.2.2.1.1.1
  unfold f_X6_covered
  rw [c_0]
  refine loopA (fun p acc => acc ||| (if bc (aB A p) = 0 then nI 0 else bitW p)) (an A) id (fun _ _ => True) trivial (fun i y hi _ => ⟨?_, trivial⟩) (fun y _ => ?_) (by omega)
  · obtain ⟨b1, b2, b3, b4, -⟩ := c_bird hC hA hi
    have b5 := b2.f.1
    have b6 := b3.2.1
    have b7 := b4.2.1
    by_cases e : bc (aB A i) = 0
    · simp (disch := omega) only [Option.bind_some, Option.map_some, Option.bind_none, Option.bind_fun_none, zrdI, zrdR, zwrI, zwrR, zwrZ, zvs, zald, zast, zlald, zlast, zaald, zlen, sh_sI, sh_sL, sh_sR, gr_sI, gr_sL, gi_sL, gi_sR, gl_sI, gl_sR, sz_sI, sz_sL, sz_sR, gi_sI, gl_sL, gr_sR, nar20, nar22_0, nar22_1, narb0, narb1, nI_clamp, zin_nI, nI_leI, nI_ltI, nI_eq, nI_add, nI_mul, nI_sub, nI_dec, nI_lt0, nI_0le, neg1_lt, neg1_le, neg1_ne, neg1_ne2, reduceIte, eq_self, ite_true, ite_false, true_and, and_true, or_true, true_or, and_self, Nat.reduceEqDiff, Nat.reduceAdd, Nat.reduceMul, Nat.reduceSub, Nat.add_zero, Nat.zero_add, bh_mk, bc_mk, bn_mk, bo_mk, bO_mk, bF_mk, bL_mk, bT_mk, if_pos, if_neg, ng_lt, ng_le, ng_lt2, ng_le2, ng_eq, ng_eq2, ng_nn, ng_dec, ng_dec0, sb_nle, sb_nlt, bI_0, bI_1, bI_t, bI_f, bI_nar, bitW_e, and_false, false_and, Nat.add_sub_cancel, if_false, if_true, c_0, c_1, c_2, c_3, c_4, c_5, c_6, c_7, c_8, c_9, c_10, c_11, c_12, c_13, c_16, c_17, c_20, c_24, c_28, c_36, c_37, c_39, c_40, c_41, c_42, c_43, c_45, c_47, c_48, c_49, c_57, c_59, c_60, c_61, c_62, c_80, c_81, c_97, c_99, c_100, c_104, c_107, c_109, c_115, c_116, c_120, c_216, c_217, c_255, c_256, c_1000, c_2000, c_9999, c_1000000, f_X6_covered_4, f_X6_covered_32, h1, h2, h3, h4, b1, b5, b6, e]
    · simp (disch := omega) only [Option.bind_some, Option.map_some, Option.bind_none, Option.bind_fun_none, zrdI, zrdR, zwrI, zwrR, zwrZ, zvs, zald, zast, zlald, zlast, zaald, zlen, sh_sI, sh_sL, sh_sR, gr_sI, gr_sL, gi_sL, gi_sR, gl_sI, gl_sR, sz_sI, sz_sL, sz_sR, gi_sI, gl_sL, gr_sR, nar20, nar22_0, nar22_1, narb0, narb1, nI_clamp, zin_nI, nI_leI, nI_ltI, nI_eq, nI_add, nI_mul, nI_sub, nI_dec, nI_lt0, nI_0le, neg1_lt, neg1_le, neg1_ne, neg1_ne2, reduceIte, eq_self, ite_true, ite_false, true_and, and_true, or_true, true_or, and_self, Nat.reduceEqDiff, Nat.reduceAdd, Nat.reduceMul, Nat.reduceSub, Nat.add_zero, Nat.zero_add, bh_mk, bc_mk, bn_mk, bo_mk, bO_mk, bF_mk, bL_mk, bT_mk, if_pos, if_neg, ng_lt, ng_le, ng_lt2, ng_le2, ng_eq, ng_eq2, ng_nn, ng_dec, ng_dec0, sb_nle, sb_nlt, bI_0, bI_1, bI_t, bI_f, bI_nar, bitW_e, and_false, false_and, Nat.add_sub_cancel, if_false, if_true, c_0, c_1, c_2, c_3, c_4, c_5, c_6, c_7, c_8, c_9, c_10, c_11, c_12, c_13, c_16, c_17, c_20, c_24, c_28, c_36, c_37, c_39, c_40, c_41, c_42, c_43, c_45, c_47, c_48, c_49, c_57, c_59, c_60, c_61, c_62, c_80, c_81, c_97, c_99, c_100, c_104, c_107, c_109, c_115, c_116, c_120, c_216, c_217, c_255, c_256, c_1000, c_2000, c_9999, c_1000000, f_X6_covered_4, f_X6_covered_32, h1, h2, h3, h4, b1, b5, b6]
  · simp (disch := omega) only [Option.bind_some, Option.map_some, Option.bind_none, Option.bind_fun_none, zrdI, zrdR, zwrI, zwrR, zwrZ, zvs, zald, zast, zlald, zlast, zaald, zlen, sh_sI, sh_sL, sh_sR, gr_sI, gr_sL, gi_sL, gi_sR, gl_sI, gl_sR, sz_sI, sz_sL, sz_sR, gi_sI, gl_sL, gr_sR, nar20, nar22_0, nar22_1, narb0, narb1, nI_clamp, zin_nI, nI_leI, nI_ltI, nI_eq, nI_add, nI_mul, nI_sub, nI_dec, nI_lt0, nI_0le, neg1_lt, neg1_le, neg1_ne, neg1_ne2, reduceIte, eq_self, ite_true, ite_false, true_and, and_true, or_true, true_or, and_self, Nat.reduceEqDiff, Nat.reduceAdd, Nat.reduceMul, Nat.reduceSub, Nat.add_zero, Nat.zero_add, bh_mk, bc_mk, bn_mk, bo_mk, bO_mk, bF_mk, bL_mk, bT_mk, if_pos, if_neg, ng_lt, ng_le, ng_lt2, ng_le2, ng_eq, ng_eq2, ng_nn, ng_dec, ng_dec0, sb_nle, sb_nlt, bI_0, bI_1, bI_t, bI_f, bI_nar, bitW_e, and_false, false_and, Nat.add_sub_cancel, if_false, if_true, c_0, c_1, c_2, c_3, c_4, c_5, c_6, c_7, c_8, c_9, c_10, c_11, c_12, c_13, c_16, c_17, c_20, c_24, c_28, c_36, c_37, c_39, c_40, c_41, c_42, c_43, c_45, c_47, c_48, c_49, c_57, c_59, c_60, c_61, c_62, c_80, c_81, c_97, c_99, c_100, c_104, c_107, c_109, c_115, c_116, c_120, c_216, c_217, c_255, c_256, c_1000, c_2000, c_9999, c_1000000, f_X6_covered_4, h1, h4]
    rfl
theorem e_spoken {x c : Nat} {g : ZS} {A : ZA} (hN : 10000 ≤ N) (hC : CJ x g A) (hA : AI A c) : f_X6_spoken N (x + 23) g = some (spA A (an A)) := by
  have n6 := hA.1.1
  have h1 := hC.1.SL23.f.1
  have h2 := hC.1.SL23.f.2.1
  have h3 := hC.1.SL23.f.2.2.1
  have h4 := hC.2.2.2.2.2.1.1.1
  unfold f_X6_spoken
  rw [c_0]
  refine loopA (fun p acc => acc ||| (if bo (aB A p) = 0 then nI 0 else bitW p)) (an A) id (fun _ _ => True) trivial (fun i y hi _ => ⟨?_, trivial⟩) (fun y _ => ?_) (by omega)
  · obtain ⟨b1, b2, b3, b4, -⟩ := c_bird hC hA hi
    have b5 := b2.f.1
    have b6 := b3.2.2.2.1
    have b7 := b4.2.2.2.1
    by_cases e : bo (aB A i) = 0
    · simp (disch := omega) only [Option.bind_some, Option.map_some, Option.bind_none, Option.bind_fun_none, zrdI, zrdR, zwrI, zwrR, zwrZ, zvs, zald, zast, zlald, zlast, zaald, zlen, sh_sI, sh_sL, sh_sR, gr_sI, gr_sL, gi_sL, gi_sR, gl_sI, gl_sR, sz_sI, sz_sL, sz_sR, gi_sI, gl_sL, gr_sR, nar20, nar22_0, nar22_1, narb0, narb1, nI_clamp, zin_nI, nI_leI, nI_ltI, nI_eq, nI_add, nI_mul, nI_sub, nI_dec, nI_lt0, nI_0le, neg1_lt, neg1_le, neg1_ne, neg1_ne2, reduceIte, eq_self, ite_true, ite_false, true_and, and_true, or_true, true_or, and_self, Nat.reduceEqDiff, Nat.reduceAdd, Nat.reduceMul, Nat.reduceSub, Nat.add_zero, Nat.zero_add, bh_mk, bc_mk, bn_mk, bo_mk, bO_mk, bF_mk, bL_mk, bT_mk, if_pos, if_neg, ng_lt, ng_le, ng_lt2, ng_le2, ng_eq, ng_eq2, ng_nn, ng_dec, ng_dec0, sb_nle, sb_nlt, bI_0, bI_1, bI_t, bI_f, bI_nar, bitW_e, and_false, false_and, Nat.add_sub_cancel, if_false, if_true, c_0, c_1, c_2, c_3, c_4, c_5, c_6, c_7, c_8, c_9, c_10, c_11, c_12, c_13, c_16, c_17, c_20, c_24, c_28, c_36, c_37, c_39, c_40, c_41, c_42, c_43, c_45, c_47, c_48, c_49, c_57, c_59, c_60, c_61, c_62, c_80, c_81, c_97, c_99, c_100, c_104, c_107, c_109, c_115, c_116, c_120, c_216, c_217, c_255, c_256, c_1000, c_2000, c_9999, c_1000000, f_X6_spoken_4, f_X6_spoken_32, h1, h2, h3, h4, b1, b5, b6, e]
    · simp (disch := omega) only [Option.bind_some, Option.map_some, Option.bind_none, Option.bind_fun_none, zrdI, zrdR, zwrI, zwrR, zwrZ, zvs, zald, zast, zlald, zlast, zaald, zlen, sh_sI, sh_sL, sh_sR, gr_sI, gr_sL, gi_sL, gi_sR, gl_sI, gl_sR, sz_sI, sz_sL, sz_sR, gi_sI, gl_sL, gr_sR, nar20, nar22_0, nar22_1, narb0, narb1, nI_clamp, zin_nI, nI_leI, nI_ltI, nI_eq, nI_add, nI_mul, nI_sub, nI_dec, nI_lt0, nI_0le, neg1_lt, neg1_le, neg1_ne, neg1_ne2, reduceIte, eq_self, ite_true, ite_false, true_and, and_true, or_true, true_or, and_self, Nat.reduceEqDiff, Nat.reduceAdd, Nat.reduceMul, Nat.reduceSub, Nat.add_zero, Nat.zero_add, bh_mk, bc_mk, bn_mk, bo_mk, bO_mk, bF_mk, bL_mk, bT_mk, if_pos, if_neg, ng_lt, ng_le, ng_lt2, ng_le2, ng_eq, ng_eq2, ng_nn, ng_dec, ng_dec0, sb_nle, sb_nlt, bI_0, bI_1, bI_t, bI_f, bI_nar, bitW_e, and_false, false_and, Nat.add_sub_cancel, if_false, if_true, c_0, c_1, c_2, c_3, c_4, c_5, c_6, c_7, c_8, c_9, c_10, c_11, c_12, c_13, c_16, c_17, c_20, c_24, c_28, c_36, c_37, c_39, c_40, c_41, c_42, c_43, c_45, c_47, c_48, c_49, c_57, c_59, c_60, c_61, c_62, c_80, c_81, c_97, c_99, c_100, c_104, c_107, c_109, c_115, c_116, c_120, c_216, c_217, c_255, c_256, c_1000, c_2000, c_9999, c_1000000, f_X6_spoken_4, f_X6_spoken_32, h1, h2, h3, h4, b1, b5, b6]
  · simp (disch := omega) only [Option.bind_some, Option.map_some, Option.bind_none, Option.bind_fun_none, zrdI, zrdR, zwrI, zwrR, zwrZ, zvs, zald, zast, zlald, zlast, zaald, zlen, sh_sI, sh_sL, sh_sR, gr_sI, gr_sL, gi_sL, gi_sR, gl_sI, gl_sR, sz_sI, sz_sL, sz_sR, gi_sI, gl_sL, gr_sR, nar20, nar22_0, nar22_1, narb0, narb1, nI_clamp, zin_nI, nI_leI, nI_ltI, nI_eq, nI_add, nI_mul, nI_sub, nI_dec, nI_lt0, nI_0le, neg1_lt, neg1_le, neg1_ne, neg1_ne2, reduceIte, eq_self, ite_true, ite_false, true_and, and_true, or_true, true_or, and_self, Nat.reduceEqDiff, Nat.reduceAdd, Nat.reduceMul, Nat.reduceSub, Nat.add_zero, Nat.zero_add, bh_mk, bc_mk, bn_mk, bo_mk, bO_mk, bF_mk, bL_mk, bT_mk, if_pos, if_neg, ng_lt, ng_le, ng_lt2, ng_le2, ng_eq, ng_eq2, ng_nn, ng_dec, ng_dec0, sb_nle, sb_nlt, bI_0, bI_1, bI_t, bI_f, bI_nar, bitW_e, and_false, false_and, Nat.add_sub_cancel, if_false, if_true, c_0, c_1, c_2, c_3, c_4, c_5, c_6, c_7, c_8, c_9, c_10, c_11, c_12, c_13, c_16, c_17, c_20, c_24, c_28, c_36, c_37, c_39, c_40, c_41, c_42, c_43, c_45, c_47, c_48, c_49, c_57, c_59, c_60, c_61, c_62, c_80, c_81, c_97, c_99, c_100, c_104, c_107, c_109, c_115, c_116, c_120, c_216, c_217, c_255, c_256, c_1000, c_2000, c_9999, c_1000000, f_X6_spoken_4, h1, h4]
    rfl
theorem e_cloths {m c : Nat} {g : ZS} {A : ZA} (hN : 10000 ≤ N) (hR : RJ m g A) (hA : AI A c) : f_X12_cloths N m g = some (clA A (an A)) := by
  have n6 := hA.1.1
  have s0 := hR.1.s0
  have s1 := hR.1.s1
  have r0 := hR.1.r0
  have h4 := hR.2.2.2.2.2.2.1.1
  unfold f_X12_cloths
  rw [c_0]
  refine loopA (fun p acc => acc ||| (if bc (aB A p) = 0 then nI 0 else bitW p)) (an A) id (fun _ _ => True) trivial (fun i y hi _ => ⟨?_, trivial⟩) (fun y _ => ?_) (by omega)
  · have b6 := (hR.2.2.2.2.2.2.1.2.2.2 i hi).2.1
    have b7 := (hA.1.2.2.1 i hi).2.1
    by_cases e : bc (aB A i) = 0
    · simp (disch := omega) only [Option.bind_some, Option.map_some, Option.bind_none, Option.bind_fun_none, zrdI, zrdR, zwrI, zwrR, zwrZ, zvs, zald, zast, zlald, zlast, zaald, zlen, sh_sI, sh_sL, sh_sR, gr_sI, gr_sL, gi_sL, gi_sR, gl_sI, gl_sR, sz_sI, sz_sL, sz_sR, gi_sI, gl_sL, gr_sR, nar20, nar22_0, nar22_1, narb0, narb1, nI_clamp, zin_nI, nI_leI, nI_ltI, nI_eq, nI_add, nI_mul, nI_sub, nI_dec, nI_lt0, nI_0le, neg1_lt, neg1_le, neg1_ne, neg1_ne2, reduceIte, eq_self, ite_true, ite_false, true_and, and_true, or_true, true_or, and_self, Nat.reduceEqDiff, Nat.reduceAdd, Nat.reduceMul, Nat.reduceSub, Nat.add_zero, Nat.zero_add, bh_mk, bc_mk, bn_mk, bo_mk, bO_mk, bF_mk, bL_mk, bT_mk, if_pos, if_neg, ng_lt, ng_le, ng_lt2, ng_le2, ng_eq, ng_eq2, ng_nn, ng_dec, ng_dec0, sb_nle, sb_nlt, bI_0, bI_1, bI_t, bI_f, bI_nar, bitW_e, and_false, false_and, Nat.add_sub_cancel, if_false, if_true, c_0, c_1, c_2, c_3, c_4, c_5, c_6, c_7, c_8, c_9, c_10, c_11, c_12, c_13, c_16, c_17, c_20, c_24, c_28, c_36, c_37, c_39, c_40, c_41, c_42, c_43, c_45, c_47, c_48, c_49, c_57, c_59, c_60, c_61, c_62, c_80, c_81, c_97, c_99, c_100, c_104, c_107, c_109, c_115, c_116, c_120, c_216, c_217, c_255, c_256, c_1000, c_2000, c_9999, c_1000000, f_X12_cloths_4, f_X12_of, s0, s1, r0, h4, b6, e, shl0]
    · have e1 : bc (aB A i) = 1 := by omega
      simp (disch := omega) only [Option.bind_some, Option.map_some, Option.bind_none, Option.bind_fun_none, zrdI, zrdR, zwrI, zwrR, zwrZ, zvs, zald, zast, zlald, zlast, zaald, zlen, sh_sI, sh_sL, sh_sR, gr_sI, gr_sL, gi_sL, gi_sR, gl_sI, gl_sR, sz_sI, sz_sL, sz_sR, gi_sI, gl_sL, gr_sR, nar20, nar22_0, nar22_1, narb0, narb1, nI_clamp, zin_nI, nI_leI, nI_ltI, nI_eq, nI_add, nI_mul, nI_sub, nI_dec, nI_lt0, nI_0le, neg1_lt, neg1_le, neg1_ne, neg1_ne2, reduceIte, eq_self, ite_true, ite_false, true_and, and_true, or_true, true_or, and_self, Nat.reduceEqDiff, Nat.reduceAdd, Nat.reduceMul, Nat.reduceSub, Nat.add_zero, Nat.zero_add, bh_mk, bc_mk, bn_mk, bo_mk, bO_mk, bF_mk, bL_mk, bT_mk, if_pos, if_neg, ng_lt, ng_le, ng_lt2, ng_le2, ng_eq, ng_eq2, ng_nn, ng_dec, ng_dec0, sb_nle, sb_nlt, bI_0, bI_1, bI_t, bI_f, bI_nar, bitW_e, and_false, false_and, Nat.add_sub_cancel, if_false, if_true, c_0, c_1, c_2, c_3, c_4, c_5, c_6, c_7, c_8, c_9, c_10, c_11, c_12, c_13, c_16, c_17, c_20, c_24, c_28, c_36, c_37, c_39, c_40, c_41, c_42, c_43, c_45, c_47, c_48, c_49, c_57, c_59, c_60, c_61, c_62, c_80, c_81, c_97, c_99, c_100, c_104, c_107, c_109, c_115, c_116, c_120, c_216, c_217, c_255, c_256, c_1000, c_2000, c_9999, c_1000000, f_X12_cloths_4, f_X12_of, s0, s1, r0, h4, b6, e1]
  · simp (disch := omega) only [Option.bind_some, Option.map_some, Option.bind_none, Option.bind_fun_none, zrdI, zrdR, zwrI, zwrR, zwrZ, zvs, zald, zast, zlald, zlast, zaald, zlen, sh_sI, sh_sL, sh_sR, gr_sI, gr_sL, gi_sL, gi_sR, gl_sI, gl_sR, sz_sI, sz_sL, sz_sR, gi_sI, gl_sL, gr_sR, nar20, nar22_0, nar22_1, narb0, narb1, nI_clamp, zin_nI, nI_leI, nI_ltI, nI_eq, nI_add, nI_mul, nI_sub, nI_dec, nI_lt0, nI_0le, neg1_lt, neg1_le, neg1_ne, neg1_ne2, reduceIte, eq_self, ite_true, ite_false, true_and, and_true, or_true, true_or, and_self, Nat.reduceEqDiff, Nat.reduceAdd, Nat.reduceMul, Nat.reduceSub, Nat.add_zero, Nat.zero_add, bh_mk, bc_mk, bn_mk, bo_mk, bO_mk, bF_mk, bL_mk, bT_mk, if_pos, if_neg, ng_lt, ng_le, ng_lt2, ng_le2, ng_eq, ng_eq2, ng_nn, ng_dec, ng_dec0, sb_nle, sb_nlt, bI_0, bI_1, bI_t, bI_f, bI_nar, bitW_e, and_false, false_and, Nat.add_sub_cancel, if_false, if_true, c_0, c_1, c_2, c_3, c_4, c_5, c_6, c_7, c_8, c_9, c_10, c_11, c_12, c_13, c_16, c_17, c_20, c_24, c_28, c_36, c_37, c_39, c_40, c_41, c_42, c_43, c_45, c_47, c_48, c_49, c_57, c_59, c_60, c_61, c_62, c_80, c_81, c_97, c_99, c_100, c_104, c_107, c_109, c_115, c_116, c_120, c_216, c_217, c_255, c_256, c_1000, c_2000, c_9999, c_1000000, f_X12_cloths_4, s0, h4]
    rfl
theorem e_speakers {m c : Nat} {g : ZS} {A : ZA} (hN : 10000 ≤ N) (hR : RJ m g A) (hA : AI A c) : f_X12_speakers N m g = some (spA A (an A)) := by
  have n6 := hA.1.1
  have s0 := hR.1.s0
  have s1 := hR.1.s1
  have r0 := hR.1.r0
  have h4 := hR.2.2.2.2.2.2.1.1
  unfold f_X12_speakers
  rw [c_0]
  refine loopA (fun p acc => acc ||| (if bo (aB A p) = 0 then nI 0 else bitW p)) (an A) id (fun _ _ => True) trivial (fun i y hi _ => ⟨?_, trivial⟩) (fun y _ => ?_) (by omega)
  · have b6 := (hR.2.2.2.2.2.2.1.2.2.2 i hi).2.2.2.1
    have b7 := (hA.1.2.2.1 i hi).2.2.2.1
    by_cases e : bo (aB A i) = 0
    · simp (disch := omega) only [Option.bind_some, Option.map_some, Option.bind_none, Option.bind_fun_none, zrdI, zrdR, zwrI, zwrR, zwrZ, zvs, zald, zast, zlald, zlast, zaald, zlen, sh_sI, sh_sL, sh_sR, gr_sI, gr_sL, gi_sL, gi_sR, gl_sI, gl_sR, sz_sI, sz_sL, sz_sR, gi_sI, gl_sL, gr_sR, nar20, nar22_0, nar22_1, narb0, narb1, nI_clamp, zin_nI, nI_leI, nI_ltI, nI_eq, nI_add, nI_mul, nI_sub, nI_dec, nI_lt0, nI_0le, neg1_lt, neg1_le, neg1_ne, neg1_ne2, reduceIte, eq_self, ite_true, ite_false, true_and, and_true, or_true, true_or, and_self, Nat.reduceEqDiff, Nat.reduceAdd, Nat.reduceMul, Nat.reduceSub, Nat.add_zero, Nat.zero_add, bh_mk, bc_mk, bn_mk, bo_mk, bO_mk, bF_mk, bL_mk, bT_mk, if_pos, if_neg, ng_lt, ng_le, ng_lt2, ng_le2, ng_eq, ng_eq2, ng_nn, ng_dec, ng_dec0, sb_nle, sb_nlt, bI_0, bI_1, bI_t, bI_f, bI_nar, bitW_e, and_false, false_and, Nat.add_sub_cancel, if_false, if_true, c_0, c_1, c_2, c_3, c_4, c_5, c_6, c_7, c_8, c_9, c_10, c_11, c_12, c_13, c_16, c_17, c_20, c_24, c_28, c_36, c_37, c_39, c_40, c_41, c_42, c_43, c_45, c_47, c_48, c_49, c_57, c_59, c_60, c_61, c_62, c_80, c_81, c_97, c_99, c_100, c_104, c_107, c_109, c_115, c_116, c_120, c_216, c_217, c_255, c_256, c_1000, c_2000, c_9999, c_1000000, f_X12_speakers_4, f_X12_speakers_33, f_X12_of, s0, s1, r0, h4, b6, e]
    · simp (disch := omega) only [Option.bind_some, Option.map_some, Option.bind_none, Option.bind_fun_none, zrdI, zrdR, zwrI, zwrR, zwrZ, zvs, zald, zast, zlald, zlast, zaald, zlen, sh_sI, sh_sL, sh_sR, gr_sI, gr_sL, gi_sL, gi_sR, gl_sI, gl_sR, sz_sI, sz_sL, sz_sR, gi_sI, gl_sL, gr_sR, nar20, nar22_0, nar22_1, narb0, narb1, nI_clamp, zin_nI, nI_leI, nI_ltI, nI_eq, nI_add, nI_mul, nI_sub, nI_dec, nI_lt0, nI_0le, neg1_lt, neg1_le, neg1_ne, neg1_ne2, reduceIte, eq_self, ite_true, ite_false, true_and, and_true, or_true, true_or, and_self, Nat.reduceEqDiff, Nat.reduceAdd, Nat.reduceMul, Nat.reduceSub, Nat.add_zero, Nat.zero_add, bh_mk, bc_mk, bn_mk, bo_mk, bO_mk, bF_mk, bL_mk, bT_mk, if_pos, if_neg, ng_lt, ng_le, ng_lt2, ng_le2, ng_eq, ng_eq2, ng_nn, ng_dec, ng_dec0, sb_nle, sb_nlt, bI_0, bI_1, bI_t, bI_f, bI_nar, bitW_e, and_false, false_and, Nat.add_sub_cancel, if_false, if_true, c_0, c_1, c_2, c_3, c_4, c_5, c_6, c_7, c_8, c_9, c_10, c_11, c_12, c_13, c_16, c_17, c_20, c_24, c_28, c_36, c_37, c_39, c_40, c_41, c_42, c_43, c_45, c_47, c_48, c_49, c_57, c_59, c_60, c_61, c_62, c_80, c_81, c_97, c_99, c_100, c_104, c_107, c_109, c_115, c_116, c_120, c_216, c_217, c_255, c_256, c_1000, c_2000, c_9999, c_1000000, f_X12_speakers_4, f_X12_speakers_33, f_X12_of, s0, s1, r0, h4, b6]
  · simp (disch := omega) only [Option.bind_some, Option.map_some, Option.bind_none, Option.bind_fun_none, zrdI, zrdR, zwrI, zwrR, zwrZ, zvs, zald, zast, zlald, zlast, zaald, zlen, sh_sI, sh_sL, sh_sR, gr_sI, gr_sL, gi_sL, gi_sR, gl_sI, gl_sR, sz_sI, sz_sL, sz_sR, gi_sI, gl_sL, gr_sR, nar20, nar22_0, nar22_1, narb0, narb1, nI_clamp, zin_nI, nI_leI, nI_ltI, nI_eq, nI_add, nI_mul, nI_sub, nI_dec, nI_lt0, nI_0le, neg1_lt, neg1_le, neg1_ne, neg1_ne2, reduceIte, eq_self, ite_true, ite_false, true_and, and_true, or_true, true_or, and_self, Nat.reduceEqDiff, Nat.reduceAdd, Nat.reduceMul, Nat.reduceSub, Nat.add_zero, Nat.zero_add, bh_mk, bc_mk, bn_mk, bo_mk, bO_mk, bF_mk, bL_mk, bT_mk, if_pos, if_neg, ng_lt, ng_le, ng_lt2, ng_le2, ng_eq, ng_eq2, ng_nn, ng_dec, ng_dec0, sb_nle, sb_nlt, bI_0, bI_1, bI_t, bI_f, bI_nar, bitW_e, and_false, false_and, Nat.add_sub_cancel, if_false, if_true, c_0, c_1, c_2, c_3, c_4, c_5, c_6, c_7, c_8, c_9, c_10, c_11, c_12, c_13, c_16, c_17, c_20, c_24, c_28, c_36, c_37, c_39, c_40, c_41, c_42, c_43, c_45, c_47, c_48, c_49, c_57, c_59, c_60, c_61, c_62, c_80, c_81, c_97, c_99, c_100, c_104, c_107, c_109, c_115, c_116, c_120, c_216, c_217, c_255, c_256, c_1000, c_2000, c_9999, c_1000000, f_X12_speakers_4, s0, h4]
    rfl
theorem rb_ne {v : Int32} {hi k : Nat} (h : rb v 0 hi = false) (hk : k < hi) (hh : hi ≤ 2 ^ 30) : v ≠ nI k := by
  rintro rfl
  rw [rb_n (by omega), decide_eq_false_iff_not] at h
  omega
theorem rb_sub {v : Int32} : rb (v - (10 : Int32)) 0 4 = rb v 10 14 := by
  cases h : rb v 10 14 with
  | true =>
    obtain ⟨k, h1, h2, rfl⟩ := rb_t h (by omega)
    rw [c_10, nI_sub h1, rb_n (by omega)]
    exact decide_eq_true (by omega)
  | false =>
    refine Bool.eq_false_iff.mpr (fun h' => ?_)
    obtain ⟨k, h1, h2, e⟩ := rb_t h' (by omega)
    have : v = nI (k + 10) := by
      have := congrArg (fun z => z + (10 : Int32)) e
      rw [Int32.sub_add_cancel, c_10, nI_add] at this
      exact this
    rw [this, rb_n (by omega), decide_eq_false_iff_not] at h
    omega
def cntA (A : ZA) (k : Nat) : Int32 := match k with
  | 0 => nI (an A)
  | 1 => nI (ad A)
  | 2 => clA A (an A)
  | 3 => spA A (an A)
  | 4 => nI (aP A).length
  | 5 => nI (aN A).length
  | 6 => nI (aU A).length
  | 7 => nI (aR A).length
  | _ => nI (aT A).length
theorem k_count (hN : 10000 ≤ N) (v : Int32) : Call (fun x g => (f_X11_count N x v g).map (fun a => (a, g))) (fun m g => f_X12_count N m v g) := call_q (fun x m c g A hC hA hc => by
  have n6 := hA.1.1
  have hLc := hC.1.1
  cases hv : rb v 10 14 with
  | true =>
    obtain ⟨k, h1, h2, rfl⟩ := rb_t hv (by omega)
    refine ⟨nI (aH A (k - 10)).length, aR A, hA.2.2.2.2.1, ?_, fun g' hR => ?_⟩
    · have hx := (hC.1.2.2.1 (k - 10) (by omega)).1
      have he : f_X11_count N x (nI k) g = some (nI (aH A (k - 10)).length) := by
        have hd : f_X11_count N x (nI k) g = ((f_X11_isHouse (nI k - (10 : Int32))).bind fun v19 => if v19 = 0 then f_X11_count_151 N (-100 : Int32) g else (zrdR g x 11 2).bind fun v20 => (zrdR g v20 2 1).bind fun v21 => (zald 20 g v21 (nI k - (10 : Int32))).bind fun v22 => f_X11_count_151 N v22 g) := by
          rcases (show k = 10 ∨ k = 11 ∨ k = 12 ∨ k = 13 by omega) with rfl | rfl | rfl | rfl <;> rfl
        rw [hd, e_ih11, Option.bind_some, rb_sub, if_neg (bI_ne hv), p_rdR hLc.s0, hLc.r0_2, Option.bind_some, p_rdR hLc.s5, hLc.r5_1, Option.bind_some, c_10, nI_sub h1, a20_4 hLc.s11 (by omega)]
        show (some (zgi g (x + 5 + 6) (k - 10))).bind _ = _
        rw [hx]; rfl
      unfold QC
      rw [zW_map, he, zW_some]
      exact ⟨rfl, zJ.rfl, hC.2⟩
    · unfold QF f_X12_count
      refine r_start hR hA (fun g1 J0 hR1 _ => ?_)
      have hx := (hR1.1.2.2.2.2.1 (k - 10) (by omega)).1
      rw [c_10, show (13 : Int32) = nI 13 from rfl, e_in (by omega) (by omega), Option.bind_some, if_neg (bI_ne hv)]
      refine w_rdR hR1.1.1.s0 hR1.1.1.r5 ?_
      rw [nI_sub h1, a20_4 hR1.1.1.s5 (by omega), Option.bind_some, hx, zW_some]
      exact ⟨rfl, J0, hR1.2⟩
  | false =>
    cases hv2 : rb v 0 9 with
    | true =>
      obtain ⟨k, -, h2, rfl⟩ := rb_t hv2 (by omega)
      refine ⟨cntA A k, aR A, hA.2.2.2.2.1, ?_, fun g' hR => ?_⟩
      · have he : f_X11_count N x (nI k) g = some (cntA A k) := by
          rcases (show k = 0 ∨ k = 1 ∨ k = 2 ∨ k = 3 ∨ k = 4 ∨ k = 5 ∨ k = 6 ∨ k = 7 ∨ k = 8 by omega) with rfl | rfl | rfl | rfl | rfl | rfl | rfl | rfl | rfl
          · show ((zrdR g x 11 6).bind fun v1 => (zrdI g v1 6 1).bind fun v2 => some v2) = _
            rw [p_rdR hLc.s0, hLc.r0_6, Option.bind_some, p_rdI hLc.SL23.f.1, hC.1.2.2.2.2.2.1.1.1]; rfl
          · show ((zrdR g x 11 6).bind fun v1 => (zrdI g v1 6 2).bind fun v2 => some v2) = _
            rw [p_rdR hLc.s0, hLc.r0_6, Option.bind_some, p_rdI hLc.SL23.f.1, hC.1.2.2.2.2.2.1.1.2.1]; rfl
          · show ((zrdR g x 11 6).bind fun v5 => zvs g v5 6 <| (f_X6_covered N v5 g).bind fun v6 => some v6) = _
            rw [p_rdR hLc.s0, hLc.r0_6, Option.bind_some, p_vs hLc.SL23.f.1, e_covered hN hC.1 hA]; rfl
          · show ((zrdR g x 11 6).bind fun v5 => zvs g v5 6 <| (f_X6_spoken N v5 g).bind fun v6 => some v6) = _
            rw [p_rdR hLc.s0, hLc.r0_6, Option.bind_some, p_vs hLc.SL23.f.1, e_spoken hN hC.1 hA]; rfl
          · show ((zrdR g x 11 14).bind fun v1 => (zrdI g v1 7 5).bind fun v2 => some v2) = _
            rw [p_rdR hLc.s0, hLc.r0_14, Option.bind_some, p_rdI hLc.s506, hC.1.2.2.2.2.2.2.2.2.1.1]; rfl
          · show ((zrdR g x 11 15).bind fun v1 => (zrdI g v1 3 2).bind fun v2 => some v2) = _
            rw [p_rdR hLc.s0, hLc.r0_15, Option.bind_some, p_rdI hLc.s512, hC.1.2.2.2.2.2.2.2.2.2.1]; rfl
          · show ((zrdR g x 11 8).bind fun v1 => (zrdI g v1 4 1).bind fun v2 => some v2) = _
            rw [p_rdR hLc.s0, hLc.r0_8, Option.bind_some, p_rdI hLc.s87, hC.1.2.2.2.2.2.2.1.1]; rfl
          · show ((zrdR g x 11 1).bind fun v1 => (zrdI g v1 9 1).bind fun v2 => some v2) = _
            rw [p_rdR hLc.s0, hLc.r0_1, Option.bind_some, p_rdI hLc.s3, hC.2.1]; rfl
          · show ((zrdR g x 11 0).bind fun v1 => (zrdI g v1 8 1).bind fun v2 => some v2) = _
            rw [p_rdR hLc.s0, hLc.r0_0, Option.bind_some, p_rdI hLc.s1, hC.1.2.1.2.2.2.1]; rfl
        unfold QC
        rw [zW_map, he, zW_some]
        exact ⟨rfl, zJ.rfl, hC.2⟩
      · unfold QF f_X12_count
        refine r_start hR hA (fun g1 J0 hR1 _ => ?_)
        have hL := hR1.1.1
        rw [c_10, show (13 : Int32) = nI 13 from rfl, e_in (by omega) (by omega), Option.bind_some, if_pos (bI_eq hv)]
        have fin : QF m (cntA A k) (aR A) g' (some (cntA A k, g1)) := zW_some.mpr ⟨rfl, J0, hR1.2⟩
        rcases (show k = 0 ∨ k = 1 ∨ k = 2 ∨ k = 3 ∨ k = 4 ∨ k = 5 ∨ k = 6 ∨ k = 7 ∨ k = 8 by omega) with rfl | rfl | rfl | rfl | rfl | rfl | rfl | rfl | rfl
        · show zW ((zrdI g1 m 12 1).bind fun v3 => some (v3, g1)) _
          exact w_rdI hL.s0 hR1.1.2.2.2.2.2.2.1.1 fin
        · show zW ((zrdR g1 m 12 0).bind fun v4 => (zald 20 g1 v4 (216 : Int32)).bind fun v5 => some (v5, g1)) _
          refine w_rdR hL.s0 hL.r0 ?_
          rw [c_216, a20_217 hL.s1 (by omega), hR1.1.2.2.2.2.2.2.1.2.2.1]
          exact fin
        · show zW (zvs g1 m 12 <| (f_X12_cloths N m g1).bind fun v6 => some (v6, g1)) _
          exact w_vs hL.s0 (w_eq (e_cloths hN hR1.1 hA) fin)
        · show zW (zvs g1 m 12 <| (f_X12_speakers N m g1).bind fun v6 => some (v6, g1)) _
          exact w_vs hL.s0 (w_eq (e_speakers hN hR1.1 hA) fin)
        · show zW ((zrdI g1 m 12 36).bind fun v3 => some (v3, g1)) _
          exact w_rdI hL.s0 hR1.1.2.2.2.2.2.2.2.2.2.1.1 fin
        · show zW ((zrdI g1 m 12 41).bind fun v3 => some (v3, g1)) _
          exact w_rdI hL.s0 hR1.1.2.2.2.2.2.2.2.2.2.2.1 fin
        · show zW ((zrdI g1 m 12 26).bind fun v3 => some (v3, g1)) _
          exact w_rdI hL.s0 hR1.1.2.2.2.2.2.2.2.1.1 fin
        · show zW ((zrdI g1 m 12 9).bind fun v3 => some (v3, g1)) _
          exact w_rdI hL.s0 hR1.2.1 fin
        · show zW ((zrdI g1 m 12 7).bind fun v3 => some (v3, g1)) _
          exact w_rdI hL.s0 hR1.1.2.2.2.1.1 fin
    | false =>
      have n0 : ¬ v = 0 := rb_ne (k := 0) hv2 (by omega) (by omega)
      have n1 : ¬ v = 1 := rb_ne (k := 1) hv2 (by omega) (by omega)
      have n2 : ¬ v = 2 := rb_ne (k := 2) hv2 (by omega) (by omega)
      have n3 : ¬ v = 3 := rb_ne (k := 3) hv2 (by omega) (by omega)
      have n4 : ¬ v = 4 := rb_ne (k := 4) hv2 (by omega) (by omega)
      have n5 : ¬ v = 5 := rb_ne (k := 5) hv2 (by omega) (by omega)
      have n6' : ¬ v = 6 := rb_ne (k := 6) hv2 (by omega) (by omega)
      have n7 : ¬ v = 7 := rb_ne (k := 7) hv2 (by omega) (by omega)
      have n8 : ¬ v = 8 := rb_ne (k := 8) hv2 (by omega) (by omega)
      refine ⟨-100, aR A, hA.2.2.2.2.1, ?_, fun g' hR => ?_⟩
      · unfold QC f_X11_count f_X11_count_151
        simp only [zcase, if_neg n0, if_neg n1, if_neg n2, if_neg n3, if_neg n4, if_neg n5, if_neg n6', if_neg n7, if_neg n8]
        rw [zW_map, e_ih11]
        refine w_eq rfl ?_
        rw [rb_sub, if_pos (bI_eq hv), zW_some]
        exact ⟨rfl, zJ.rfl, hC.2⟩
      · unfold QF f_X12_count
        refine r_start hR hA (fun g1 J0 hR1 _ => ?_)
        rw [c_10, show (13 : Int32) = nI 13 from rfl, e_in (by omega) (by omega), Option.bind_some, if_pos (bI_eq hv)]
        simp only [zcase, if_neg n0, if_neg n1, if_neg n2, if_neg n3, if_neg n4, if_neg n5, if_neg n6', if_neg n7, if_neg n8]
        rw [zW_some]
        exact ⟨rfl, J0, hR1.2⟩)
end K3
