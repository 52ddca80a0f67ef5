/-! ===== birds ===== -/
abbrev ZB : Type := Nat × Nat × Nat × Nat × (Nat → Nat) × (Nat → Nat) × (Nat → Nat) × (Nat → Nat)
abbrev bh (b : ZB) : Nat := b.1
abbrev bc (b : ZB) : Nat := b.2.1
abbrev bn (b : ZB) : Nat := b.2.2.1
abbrev bo (b : ZB) : Nat := b.2.2.2.1
abbrev bO (b : ZB) : Nat → Nat := b.2.2.2.2.1
abbrev bF (b : ZB) : Nat → Nat := b.2.2.2.2.2.1
abbrev bL (b : ZB) : Nat → Nat := b.2.2.2.2.2.2.1
abbrev bT (b : ZB) : Nat → Nat := b.2.2.2.2.2.2.2
theorem bh_mk {h c n o : Nat} {O F L T : Nat → Nat} : bh (h, c, n, o, O, F, L, T) = h := rfl
theorem bc_mk {h c n o : Nat} {O F L T : Nat → Nat} : bc (h, c, n, o, O, F, L, T) = c := rfl
theorem bn_mk {h c n o : Nat} {O F L T : Nat → Nat} : bn (h, c, n, o, O, F, L, T) = n := rfl
theorem bo_mk {h c n o : Nat} {O F L T : Nat → Nat} : bo (h, c, n, o, O, F, L, T) = o := rfl
theorem bO_mk {h c n o : Nat} {O F L T : Nat → Nat} : bO (h, c, n, o, O, F, L, T) = O := rfl
theorem bF_mk {h c n o : Nat} {O F L T : Nat → Nat} : bF (h, c, n, o, O, F, L, T) = F := rfl
theorem bL_mk {h c n o : Nat} {O F L T : Nat → Nat} : bL (h, c, n, o, O, F, L, T) = L := rfl
theorem bT_mk {h c n o : Nat} {O F L T : Nat → Nat} : bT (h, c, n, o, O, F, L, T) = T := rfl
def uN (f : Nat → Nat) (k v : Nat) : Nat → Nat := fun i => if i = k then v else f i
theorem uN_s {f : Nat → Nat} {k v : Nat} : uN f k v k = v := if_pos rfl
theorem uN_n {f : Nat → Nat} {k v i : Nat} (h : i ≠ k) : uN f k v i = f i := if_neg h
def BI (b : ZB) : Prop := bh b < 4 ∧ bc b ≤ 1 ∧ bn b ≤ 9999 ∧ bo b ≤ 8 ∧ ∀ w, w < 8 → bO b w ≤ bn b ∧ bF b w ≤ 9999 ∧ bL b w ≤ 9999 ∧ bT b w ≤ 99
def CB (g : ZS) (q : Nat) (b : ZB) : Prop := zgi g q 4 = nI (bh b) ∧ zgi g q 6 = nI (bc b) ∧ zgi g q 7 = nI (bn b) ∧ zgi g q 8 = nI (bo b) ∧ ∀ w, w < 8 → zgi g (q + 1) w = nI (bO b w) ∧ zgi g (q + 2) w = nI (bF b w) ∧ zgi g (q + 3) w = nI (bL b w) ∧ zgi g (q + 4) w = nI (bT b w)
abbrev Sb (q : Nat) : Nat → Nat → Prop := fun a j => q ≤ a ∧ a < q + 5 ∧ ¬ (a = q ∧ j = 5)
theorem CB.keep {g g' : ZS} {q : Nat} {b : ZB} (h : CB g q b) (hi : ∀ a j, Sb q a j → zgi g' a j = zgi g a j) : CB g' q b := by
  obtain ⟨h1, h2, h3, h4, h5⟩ := h
  refine ⟨?_, ?_, ?_, ?_, fun w hw => ?_⟩
  · rw [hi q _ ⟨by omega, by omega, by omega⟩]; exact h1
  · rw [hi q _ ⟨by omega, by omega, by omega⟩]; exact h2
  · rw [hi q _ ⟨by omega, by omega, by omega⟩]; exact h3
  · rw [hi q _ ⟨by omega, by omega, by omega⟩]; exact h4
  · obtain ⟨k1, k2, k3, k4⟩ := h5 w hw
    refine ⟨?_, ?_, ?_, ?_⟩
    · rw [hi (q + 1) _ ⟨by omega, by omega, by omega⟩]; exact k1
    · rw [hi (q + 2) _ ⟨by omega, by omega, by omega⟩]; exact k2
    · rw [hi (q + 3) _ ⟨by omega, by omega, by omega⟩]; exact k3
    · rw [hi (q + 4) _ ⟨by omega, by omega, by omega⟩]; exact k4
theorem CB.keepJ {S : Nat → Nat → Prop} {g g' : ZS} {q : Nat} {b : ZB} (h : CB g q b) (hE : zJ S g g') (hS : ∀ a j, Sb q a j → ¬ S a j) : CB g' q b := h.keep (fun a j hs => hE.gi (hS a j hs))
def pTake (b : ZB) (w : Nat) : ZB := if 9999 ≤ bn b then b else (bh b, bc b, bn b + 1, bo b, uN (bO b) w (bO b w + 1), if bO b w = 0 then uN (bF b) w (bn b) else bF b, uN (bL b) w (bn b), bT b)
theorem pTake_BI {b : ZB} {w : Nat} (h : BI b) : BI (pTake b w) := by
  unfold pTake
  split
  · exact h
  · rename_i h9
    obtain ⟨h1, h2, h3, h4, h5⟩ := h
    refine ⟨h1, h2, by show bn b + 1 ≤ 9999; omega, h4, fun v hv => ?_⟩
    obtain ⟨k1, k2, k3, k4⟩ := h5 v hv
    refine ⟨?_, ?_, ?_, k4⟩
    · show uN (bO b) w (bO b w + 1) v ≤ bn b + 1
      unfold uN
      split
      · rename_i e; subst e; omega
      · omega
    · show (if bO b w = 0 then uN (bF b) w (bn b) else bF b) v ≤ 9999
      split
      · unfold uN; split <;> omega
      · exact k2
    · show uN (bL b) w (bn b) v ≤ 9999
      unfold uN; split <;> omega
theorem s_take {g : ZS} {q w : Nat} {b : ZB} (hB : BL (zh g) q) (hb : CB g q b) (hI : BI b) (hw : w < 8) : zW (f_X0_take q (nI w) g) (fun g' => zJ (Sb q) g g' ∧ CB g' q (pTake b w)) := by
  obtain ⟨h1, h2, h3, h4, h5, h6, h7, h8, h9⟩ := hB.f
  obtain ⟨c1, c2, c3, c4, c5⟩ := hb
  obtain ⟨i1, i2, i3, i4, i5⟩ := hI
  obtain ⟨w1, w2, w3, w4⟩ := c5 w hw
  obtain ⟨j1, j2, j3, j4⟩ := i5 w hw
  have s1 : ∀ a j, q ≤ a → a < q + 5 → ¬ (a = q ∧ j = 5) → Sb q a j := fun a j x y z => ⟨x, y, z⟩
  unfold f_X0_take pTake
  by_cases hn : 9999 ≤ bn b
  · simp (disch := omega) only [Option.bind_some, Option.map_some, Option.bind_none, Option.bind_fun_none, zrdI, zrdR, zwrI, zwrR, zwrZ, zvs, zald, zast, zlald, zlast, zaald, zlen, sh_sI, sh_sL, sh_sR, gr_sI, gr_sL, gi_sL, gi_sR, gl_sI, gl_sR, sz_sI, sz_sL, sz_sR, gi_sI, gl_sL, gr_sR, nar20, nar22_0, nar22_1, narb0, narb1, nI_clamp, zin_nI, nI_leI, nI_ltI, nI_eq, nI_add, nI_mul, nI_sub, nI_dec, nI_lt0, nI_0le, neg1_lt, neg1_le, neg1_ne, neg1_ne2, reduceIte, eq_self, ite_true, ite_false, true_and, and_true, or_true, true_or, and_self, Nat.reduceEqDiff, Nat.reduceAdd, Nat.reduceMul, Nat.reduceSub, Nat.add_zero, Nat.zero_add, bh_mk, bc_mk, bn_mk, bo_mk, bO_mk, bF_mk, bL_mk, bT_mk, if_pos, if_neg, c_0, c_1, c_2, c_3, c_4, c_5, c_6, c_7, c_8, c_9, c_10, c_11, c_12, c_13, c_16, c_17, c_20, c_24, c_28, c_36, c_37, c_39, c_40, c_41, c_42, c_43, c_45, c_47, c_48, c_49, c_57, c_59, c_60, c_61, c_62, c_80, c_81, c_97, c_99, c_100, c_104, c_107, c_109, c_115, c_116, c_120, c_216, c_217, c_255, c_256, c_1000, c_2000, c_9999, c_1000000, h1, h2, h6, c3]
    exact zW_some.mpr ⟨zJ.rfl, c1, c2, c3, c4, c5⟩
  · by_cases hz : bO b w = 0
    · simp (disch := omega) only [Option.bind_some, Option.map_some, Option.bind_none, Option.bind_fun_none, zrdI, zrdR, zwrI, zwrR, zwrZ, zvs, zald, zast, zlald, zlast, zaald, zlen, sh_sI, sh_sL, sh_sR, gr_sI, gr_sL, gi_sL, gi_sR, gl_sI, gl_sR, sz_sI, sz_sL, sz_sR, gi_sI, gl_sL, gr_sR, nar20, nar22_0, nar22_1, narb0, narb1, nI_clamp, zin_nI, nI_leI, nI_ltI, nI_eq, nI_add, nI_mul, nI_sub, nI_dec, nI_lt0, nI_0le, neg1_lt, neg1_le, neg1_ne, neg1_ne2, reduceIte, eq_self, ite_true, ite_false, true_and, and_true, or_true, true_or, and_self, Nat.reduceEqDiff, Nat.reduceAdd, Nat.reduceMul, Nat.reduceSub, Nat.add_zero, Nat.zero_add, bh_mk, bc_mk, bn_mk, bo_mk, bO_mk, bF_mk, bL_mk, bT_mk, if_pos, if_neg, c_0, c_1, c_2, c_3, c_4, c_5, c_6, c_7, c_8, c_9, c_10, c_11, c_12, c_13, c_16, c_17, c_20, c_24, c_28, c_36, c_37, c_39, c_40, c_41, c_42, c_43, c_45, c_47, c_48, c_49, c_57, c_59, c_60, c_61, c_62, c_80, c_81, c_97, c_99, c_100, c_104, c_107, c_109, c_115, c_116, c_120, c_216, c_217, c_255, c_256, c_1000, c_2000, c_9999, c_1000000, h1, h2, h3, h4, h5, h6, h7, h8, h9, c3, w1, hz, f_X0_take_30]
      refine zW_some.mpr ⟨?_, ?_, ?_, ?_, ?_, fun v hv => ?_⟩
      · exact ((((zJ.setI (s1 _ _ (by omega) (by omega) (by omega))).setI' (s1 _ _ (by omega) (by omega) (by omega))).setI' (s1 _ _ (by omega) (by omega) (by omega))).setI' (s1 _ _ (by omega) (by omega) (by omega)))
      all_goals simp (disch := omega) only [Option.bind_some, Option.map_some, Option.bind_none, Option.bind_fun_none, zrdI, zrdR, zwrI, zwrR, zwrZ, zvs, zald, zast, zlald, zlast, zaald, zlen, sh_sI, sh_sL, sh_sR, gr_sI, gr_sL, gi_sL, gi_sR, gl_sI, gl_sR, sz_sI, sz_sL, sz_sR, gi_sI, gl_sL, gr_sR, nar20, nar22_0, nar22_1, narb0, narb1, nI_clamp, zin_nI, nI_leI, nI_ltI, nI_eq, nI_add, nI_mul, nI_sub, nI_dec, nI_lt0, nI_0le, neg1_lt, neg1_le, neg1_ne, neg1_ne2, reduceIte, eq_self, ite_true, ite_false, true_and, and_true, or_true, true_or, and_self, Nat.reduceEqDiff, Nat.reduceAdd, Nat.reduceMul, Nat.reduceSub, Nat.add_zero, Nat.zero_add, bh_mk, bc_mk, bn_mk, bo_mk, bO_mk, bF_mk, bL_mk, bT_mk, if_pos, if_neg, c_0, c_1, c_2, c_3, c_4, c_5, c_6, c_7, c_8, c_9, c_10, c_11, c_12, c_13, c_16, c_17, c_20, c_24, c_28, c_36, c_37, c_39, c_40, c_41, c_42, c_43, c_45, c_47, c_48, c_49, c_57, c_59, c_60, c_61, c_62, c_80, c_81, c_97, c_99, c_100, c_104, c_107, c_109, c_115, c_116, c_120, c_216, c_217, c_255, c_256, c_1000, c_2000, c_9999, c_1000000, c1, c2, c3, c4, w1, hz]
      obtain ⟨v1, v2, v3, v4⟩ := c5 v hv
      by_cases e : v = w
      · subst e
        simp (disch := omega) only [Option.bind_some, Option.map_some, Option.bind_none, Option.bind_fun_none, zrdI, zrdR, zwrI, zwrR, zwrZ, zvs, zald, zast, zlald, zlast, zaald, zlen, sh_sI, sh_sL, sh_sR, gr_sI, gr_sL, gi_sL, gi_sR, gl_sI, gl_sR, sz_sI, sz_sL, sz_sR, gi_sI, gl_sL, gr_sR, nar20, nar22_0, nar22_1, narb0, narb1, nI_clamp, zin_nI, nI_leI, nI_ltI, nI_eq, nI_add, nI_mul, nI_sub, nI_dec, nI_lt0, nI_0le, neg1_lt, neg1_le, neg1_ne, neg1_ne2, reduceIte, eq_self, ite_true, ite_false, true_and, and_true, or_true, true_or, and_self, Nat.reduceEqDiff, Nat.reduceAdd, Nat.reduceMul, Nat.reduceSub, Nat.add_zero, Nat.zero_add, bh_mk, bc_mk, bn_mk, bo_mk, bO_mk, bF_mk, bL_mk, bT_mk, if_pos, if_neg, c_0, c_1, c_2, c_3, c_4, c_5, c_6, c_7, c_8, c_9, c_10, c_11, c_12, c_13, c_16, c_17, c_20, c_24, c_28, c_36, c_37, c_39, c_40, c_41, c_42, c_43, c_45, c_47, c_48, c_49, c_57, c_59, c_60, c_61, c_62, c_80, c_81, c_97, c_99, c_100, c_104, c_107, c_109, c_115, c_116, c_120, c_216, c_217, c_255, c_256, c_1000, c_2000, c_9999, c_1000000, v1, v2, v3, v4, uN, hz]
      · simp (disch := omega) only [Option.bind_some, Option.map_some, Option.bind_none, Option.bind_fun_none, zrdI, zrdR, zwrI, zwrR, zwrZ, zvs, zald, zast, zlald, zlast, zaald, zlen, sh_sI, sh_sL, sh_sR, gr_sI, gr_sL, gi_sL, gi_sR, gl_sI, gl_sR, sz_sI, sz_sL, sz_sR, gi_sI, gl_sL, gr_sR, nar20, nar22_0, nar22_1, narb0, narb1, nI_clamp, zin_nI, nI_leI, nI_ltI, nI_eq, nI_add, nI_mul, nI_sub, nI_dec, nI_lt0, nI_0le, neg1_lt, neg1_le, neg1_ne, neg1_ne2, reduceIte, eq_self, ite_true, ite_false, true_and, and_true, or_true, true_or, and_self, Nat.reduceEqDiff, Nat.reduceAdd, Nat.reduceMul, Nat.reduceSub, Nat.add_zero, Nat.zero_add, bh_mk, bc_mk, bn_mk, bo_mk, bO_mk, bF_mk, bL_mk, bT_mk, if_pos, if_neg, c_0, c_1, c_2, c_3, c_4, c_5, c_6, c_7, c_8, c_9, c_10, c_11, c_12, c_13, c_16, c_17, c_20, c_24, c_28, c_36, c_37, c_39, c_40, c_41, c_42, c_43, c_45, c_47, c_48, c_49, c_57, c_59, c_60, c_61, c_62, c_80, c_81, c_97, c_99, c_100, c_104, c_107, c_109, c_115, c_116, c_120, c_216, c_217, c_255, c_256, c_1000, c_2000, c_9999, c_1000000, v1, v2, v3, v4, uN]
    · simp (disch := omega) only [Option.bind_some, Option.map_some, Option.bind_none, Option.bind_fun_none, zrdI, zrdR, zwrI, zwrR, zwrZ, zvs, zald, zast, zlald, zlast, zaald, zlen, sh_sI, sh_sL, sh_sR, gr_sI, gr_sL, gi_sL, gi_sR, gl_sI, gl_sR, sz_sI, sz_sL, sz_sR, gi_sI, gl_sL, gr_sR, nar20, nar22_0, nar22_1, narb0, narb1, nI_clamp, zin_nI, nI_leI, nI_ltI, nI_eq, nI_add, nI_mul, nI_sub, nI_dec, nI_lt0, nI_0le, neg1_lt, neg1_le, neg1_ne, neg1_ne2, reduceIte, eq_self, ite_true, ite_false, true_and, and_true, or_true, true_or, and_self, Nat.reduceEqDiff, Nat.reduceAdd, Nat.reduceMul, Nat.reduceSub, Nat.add_zero, Nat.zero_add, bh_mk, bc_mk, bn_mk, bo_mk, bO_mk, bF_mk, bL_mk, bT_mk, if_pos, if_neg, c_0, c_1, c_2, c_3, c_4, c_5, c_6, c_7, c_8, c_9, c_10, c_11, c_12, c_13, c_16, c_17, c_20, c_24, c_28, c_36, c_37, c_39, c_40, c_41, c_42, c_43, c_45, c_47, c_48, c_49, c_57, c_59, c_60, c_61, c_62, c_80, c_81, c_97, c_99, c_100, c_104, c_107, c_109, c_115, c_116, c_120, c_216, c_217, c_255, c_256, c_1000, c_2000, c_9999, c_1000000, h1, h2, h3, h4, h5, h6, h7, h8, h9, c3, w1, f_X0_take_30]
      refine zW_some.mpr ⟨?_, ?_, ?_, ?_, ?_, fun v hv => ?_⟩
      · exact (((zJ.setI (s1 _ _ (by omega) (by omega) (by omega))).setI' (s1 _ _ (by omega) (by omega) (by omega))).setI' (s1 _ _ (by omega) (by omega) (by omega)))
      all_goals simp (disch := omega) only [Option.bind_some, Option.map_some, Option.bind_none, Option.bind_fun_none, zrdI, zrdR, zwrI, zwrR, zwrZ, zvs, zald, zast, zlald, zlast, zaald, zlen, sh_sI, sh_sL, sh_sR, gr_sI, gr_sL, gi_sL, gi_sR, gl_sI, gl_sR, sz_sI, sz_sL, sz_sR, gi_sI, gl_sL, gr_sR, nar20, nar22_0, nar22_1, narb0, narb1, nI_clamp, zin_nI, nI_leI, nI_ltI, nI_eq, nI_add, nI_mul, nI_sub, nI_dec, nI_lt0, nI_0le, neg1_lt, neg1_le, neg1_ne, neg1_ne2, reduceIte, eq_self, ite_true, ite_false, true_and, and_true, or_true, true_or, and_self, Nat.reduceEqDiff, Nat.reduceAdd, Nat.reduceMul, Nat.reduceSub, Nat.add_zero, Nat.zero_add, bh_mk, bc_mk, bn_mk, bo_mk, bO_mk, bF_mk, bL_mk, bT_mk, if_pos, if_neg, c_0, c_1, c_2, c_3, c_4, c_5, c_6, c_7, c_8, c_9, c_10, c_11, c_12, c_13, c_16, c_17, c_20, c_24, c_28, c_36, c_37, c_39, c_40, c_41, c_42, c_43, c_45, c_47, c_48, c_49, c_57, c_59, c_60, c_61, c_62, c_80, c_81, c_97, c_99, c_100, c_104, c_107, c_109, c_115, c_116, c_120, c_216, c_217, c_255, c_256, c_1000, c_2000, c_9999, c_1000000, c1, c2, c3, c4, w1]
      obtain ⟨v1, v2, v3, v4⟩ := c5 v hv
      by_cases e : v = w
      · subst e
        simp (disch := omega) only [Option.bind_some, Option.map_some, Option.bind_none, Option.bind_fun_none, zrdI, zrdR, zwrI, zwrR, zwrZ, zvs, zald, zast, zlald, zlast, zaald, zlen, sh_sI, sh_sL, sh_sR, gr_sI, gr_sL, gi_sL, gi_sR, gl_sI, gl_sR, sz_sI, sz_sL, sz_sR, gi_sI, gl_sL, gr_sR, nar20, nar22_0, nar22_1, narb0, narb1, nI_clamp, zin_nI, nI_leI, nI_ltI, nI_eq, nI_add, nI_mul, nI_sub, nI_dec, nI_lt0, nI_0le, neg1_lt, neg1_le, neg1_ne, neg1_ne2, reduceIte, eq_self, ite_true, ite_false, true_and, and_true, or_true, true_or, and_self, Nat.reduceEqDiff, Nat.reduceAdd, Nat.reduceMul, Nat.reduceSub, Nat.add_zero, Nat.zero_add, bh_mk, bc_mk, bn_mk, bo_mk, bO_mk, bF_mk, bL_mk, bT_mk, if_pos, if_neg, c_0, c_1, c_2, c_3, c_4, c_5, c_6, c_7, c_8, c_9, c_10, c_11, c_12, c_13, c_16, c_17, c_20, c_24, c_28, c_36, c_37, c_39, c_40, c_41, c_42, c_43, c_45, c_47, c_48, c_49, c_57, c_59, c_60, c_61, c_62, c_80, c_81, c_97, c_99, c_100, c_104, c_107, c_109, c_115, c_116, c_120, c_216, c_217, c_255, c_256, c_1000, c_2000, c_9999, c_1000000, v1, v2, v3, v4, uN]
      · simp (disch := omega) only [Option.bind_some, Option.map_some, Option.bind_none, Option.bind_fun_none, zrdI, zrdR, zwrI, zwrR, zwrZ, zvs, zald, zast, zlald, zlast, zaald, zlen, sh_sI, sh_sL, sh_sR, gr_sI, gr_sL, gi_sL, gi_sR, gl_sI, gl_sR, sz_sI, sz_sL, sz_sR, gi_sI, gl_sL, gr_sR, nar20, nar22_0, nar22_1, narb0, narb1, nI_clamp, zin_nI, nI_leI, nI_ltI, nI_eq, nI_add, nI_mul, nI_sub, nI_dec, nI_lt0, nI_0le, neg1_lt, neg1_le, neg1_ne, neg1_ne2, reduceIte, eq_self, ite_true, ite_false, true_and, and_true, or_true, true_or, and_self, Nat.reduceEqDiff, Nat.reduceAdd, Nat.reduceMul, Nat.reduceSub, Nat.add_zero, Nat.zero_add, bh_mk, bc_mk, bn_mk, bo_mk, bO_mk, bF_mk, bL_mk, bT_mk, if_pos, if_neg, c_0, c_1, c_2, c_3, c_4, c_5, c_6, c_7, c_8, c_9, c_10, c_11, c_12, c_13, c_16, c_17, c_20, c_24, c_28, c_36, c_37, c_39, c_40, c_41, c_42, c_43, c_45, c_47, c_48, c_49, c_57, c_59, c_60, c_61, c_62, c_80, c_81, c_97, c_99, c_100, c_104, c_107, c_109, c_115, c_116, c_120, c_216, c_217, c_255, c_256, c_1000, c_2000, c_9999, c_1000000, v1, v2, v3, v4, uN]
