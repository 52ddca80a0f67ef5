/-! ===== houses and days: the class ===== -/
def HI (H : Nat → List Nat) : Prop := ∀ h, h < 4 → 1 ≤ (H h).length ∧ (H h).length ≤ 16 ∧ ∀ i, i < (H h).length → (H h).getD i 0 < 8
def wdOn (H : Nat → List Nat) (h d : Nat) : Nat := (H h).getD (d % (H h).length) 0
theorem wdOn_lt {H : Nat → List Nat} (hH : HI H) {h d : Nat} (hh : h < 4) : wdOn H h d < 8 := (hH h hh).2.2 _ (Nat.mod_lt _ (by have := (hH h hh).1; omega))
def XHl (g : ZS) (o : Nat) : Prop := zsh g o = some (2, 0) ∧ zsh g (o + 1) = some (27, 4) ∧ zgr g o 0 = some (o + 1) ∧ zgr g o 1 = some (o + 6) ∧ zsh g (o + 6) = some (20, 4) ∧ ∀ h, h < 4 → zgr g (o + 1) h = some (o + 2 + h) ∧ zsh g (o + 2 + h) = some (20, 16)
def XH (g : ZS) (o : Nat) (H : Nat → List Nat) : Prop := ∀ h, h < 4 → zgi g (o + 6) h = nI (H h).length ∧ ∀ i, i < (H h).length → zgi g (o + 2 + h) i = nI ((H h).getD i 0)
theorem XHl.J {S : Nat → Nat → Prop} {g g' : ZS} {o : Nat} (h : XHl g o) (hJ : zJ S g g') : XHl g' o := by
  unfold XHl; rw [hJ.sh, hJ.gr]; exact h
theorem XH.keep {S : Nat → Nat → Prop} {g g' : ZS} {o : Nat} {H : Nat → List Nat} (h : XH g o H) (hJ : zJ S g g') (hS : ∀ a j, o ≤ a → a < o + 7 → ¬ S a j) : XH g' o H := fun k hk => ⟨by rw [hJ.gi (hS _ _ (by omega) (by omega))]; exact (h k hk).1, fun i hi => by rw [hJ.gi (hS _ _ (by omega) (by omega))]; exact (h k hk).2 i hi⟩
theorem e_wordOn {g : ZS} {o h d : Nat} {H : Nat → List Nat} (hl : XHl g o) (hx : XH g o H) (hH : HI H) (hh : h < 4) (hd : d < 2 ^ 31) : f_X2_wordOn o (nI h) (nI d) g = some (nI (wdOn H h d)) := by
  obtain ⟨h1, h2, h3, h4, h5, h6⟩ := hl
  obtain ⟨k1, k2⟩ := h6 h hh
  obtain ⟨j1, j2⟩ := hx h hh
  obtain ⟨i1, i2, i3⟩ := hH h hh
  have hm := Nat.mod_lt d (show 0 < (H h).length by omega)
  unfold f_X2_wordOn f_X2_wordOn_27
  simp (disch := omega) only [Option.bind_some, Option.map_some, Option.bind_none, Option.bind_fun_none, zrdI, zrdR, zwrI, zwrR, zwrZ, zvs, zald, zast, zlald, zlast, zaald, zlen, sh_sI, sh_sL, sh_sR, gr_sI, gr_sL, gi_sL, gi_sR, gl_sI, gl_sR, sz_sI, sz_sL, sz_sR, gi_sI, gl_sL, gr_sR, nar20, nar22_0, nar22_1, narb0, narb1, nI_clamp, zin_nI, nI_leI, nI_ltI, nI_eq, nI_add, nI_mul, nI_sub, nI_dec, nI_lt0, nI_0le, neg1_lt, neg1_le, neg1_ne, neg1_ne2, reduceIte, eq_self, ite_true, ite_false, true_and, and_true, or_true, true_or, and_self, Nat.reduceEqDiff, Nat.reduceAdd, Nat.reduceMul, Nat.reduceSub, Nat.add_zero, Nat.zero_add, bh_mk, bc_mk, bn_mk, bo_mk, bO_mk, bF_mk, bL_mk, bT_mk, if_pos, if_neg, ng_lt, ng_le, ng_lt2, ng_le2, ng_eq, ng_eq2, ng_nn, ng_dec, ng_dec0, sb_nle, sb_nlt, bI_0, bI_1, bI_t, bI_f, bI_nar, bitW_e, c_0, c_1, c_2, c_3, c_4, c_5, c_6, c_7, c_8, c_9, c_10, c_11, c_12, c_13, c_16, c_17, c_20, c_24, c_28, c_36, c_37, c_39, c_40, c_41, c_42, c_43, c_45, c_47, c_48, c_49, c_57, c_59, c_60, c_61, c_62, c_80, c_81, c_97, c_99, c_100, c_104, c_107, c_109, c_115, c_116, c_120, c_216, c_217, c_255, c_256, c_1000, c_2000, c_9999, c_1000000, h1, h2, h3, h4, h5, k1, k2, j1]
  rw [fm hd (by omega) (by omega)]
  simp (disch := omega) only [Option.bind_some, Option.map_some, Option.bind_none, Option.bind_fun_none, zrdI, zrdR, zwrI, zwrR, zwrZ, zvs, zald, zast, zlald, zlast, zaald, zlen, sh_sI, sh_sL, sh_sR, gr_sI, gr_sL, gi_sL, gi_sR, gl_sI, gl_sR, sz_sI, sz_sL, sz_sR, gi_sI, gl_sL, gr_sR, nar20, nar22_0, nar22_1, narb0, narb1, nI_clamp, zin_nI, nI_leI, nI_ltI, nI_eq, nI_add, nI_mul, nI_sub, nI_dec, nI_lt0, nI_0le, neg1_lt, neg1_le, neg1_ne, neg1_ne2, reduceIte, eq_self, ite_true, ite_false, true_and, and_true, or_true, true_or, and_self, Nat.reduceEqDiff, Nat.reduceAdd, Nat.reduceMul, Nat.reduceSub, Nat.add_zero, Nat.zero_add, bh_mk, bc_mk, bn_mk, bo_mk, bO_mk, bF_mk, bL_mk, bT_mk, if_pos, if_neg, ng_lt, ng_le, ng_lt2, ng_le2, ng_eq, ng_eq2, ng_nn, ng_dec, ng_dec0, sb_nle, sb_nlt, bI_0, bI_1, bI_t, bI_f, bI_nar, bitW_e, c_0, c_1, c_2, c_3, c_4, c_5, c_6, c_7, c_8, c_9, c_10, c_11, c_12, c_13, c_16, c_17, c_20, c_24, c_28, c_36, c_37, c_39, c_40, c_41, c_42, c_43, c_45, c_47, c_48, c_49, c_57, c_59, c_60, c_61, c_62, c_80, c_81, c_97, c_99, c_100, c_104, c_107, c_109, c_115, c_116, c_120, c_216, c_217, c_255, c_256, c_1000, c_2000, c_9999, c_1000000, h1, h2, h3, h4, h5, k1, k2, j1, j2 _ hm]
  rfl
def pDay (H : Nat → List Nat) (b : ZB) (d : Nat) : ZB := if bc b = 0 then pTake b (wdOn H (bh b) d) else b
theorem pDay_BI {H : Nat → List Nat} {b : ZB} {d : Nat} (h : BI b) : BI (pDay H b d) := by
  unfold pDay
  split
  · exact pTake_BI h
  · exact h
theorem s_listen {g : ZS} {x o q d : Nat} {b : ZB} {H : Nat → List Nat} (h1 : zsh g x = some (11, 0)) (h2 : zgr g x 2 = some o) (hl : XHl g o) (hx : XH g o H) (hH : HI H) (hB : BL (zh g) q) (hb : CB g q b) (hI : BI b) (hd : d < 2 ^ 31) : zW (f_X11_listenOn x q (nI d) g) (fun g' => zJ (Sb q) g g' ∧ CB g' q (pDay H b d)) := by
  have b1 := hB.f.1
  have o1 := hl.1
  have c1 := hb.1
  have c2 := hb.2.1
  have i1 := hI.1
  have i2 := hI.2.1
  unfold f_X11_listenOn f_X11_listenOn_23 pDay
  by_cases e : bc b = 0
  · simp (disch := omega) only [Option.bind_some, Option.map_some, Option.bind_none, Option.bind_fun_none, zrdI, zrdR, zwrI, zwrR, zwrZ, zvs, zald, zast, zlald, zlast, zaald, zlen, sh_sI, sh_sL, sh_sR, gr_sI, gr_sL, gi_sL, gi_sR, gl_sI, gl_sR, sz_sI, sz_sL, sz_sR, gi_sI, gl_sL, gr_sR, nar20, nar22_0, nar22_1, narb0, narb1, nI_clamp, zin_nI, nI_leI, nI_ltI, nI_eq, nI_add, nI_mul, nI_sub, nI_dec, nI_lt0, nI_0le, neg1_lt, neg1_le, neg1_ne, neg1_ne2, reduceIte, eq_self, ite_true, ite_false, true_and, and_true, or_true, true_or, and_self, Nat.reduceEqDiff, Nat.reduceAdd, Nat.reduceMul, Nat.reduceSub, Nat.add_zero, Nat.zero_add, bh_mk, bc_mk, bn_mk, bo_mk, bO_mk, bF_mk, bL_mk, bT_mk, if_pos, if_neg, ng_lt, ng_le, ng_lt2, ng_le2, ng_eq, ng_eq2, ng_nn, ng_dec, ng_dec0, sb_nle, sb_nlt, bI_0, bI_1, bI_t, bI_f, bI_nar, bitW_e, c_0, c_1, c_2, c_3, c_4, c_5, c_6, c_7, c_8, c_9, c_10, c_11, c_12, c_13, c_16, c_17, c_20, c_24, c_28, c_36, c_37, c_39, c_40, c_41, c_42, c_43, c_45, c_47, c_48, c_49, c_57, c_59, c_60, c_61, c_62, c_80, c_81, c_97, c_99, c_100, c_104, c_107, c_109, c_115, c_116, c_120, c_216, c_217, c_255, c_256, c_1000, c_2000, c_9999, c_1000000, b1, c2, e, h1, h2, c1, o1, e_wordOn hl hx hH]
    exact (s_take hB hb hI (wdOn_lt hH i1)).bind (fun g5 h5 => zW_some.mpr h5)
  · simp (disch := omega) only [Option.bind_some, Option.map_some, Option.bind_none, Option.bind_fun_none, zrdI, zrdR, zwrI, zwrR, zwrZ, zvs, zald, zast, zlald, zlast, zaald, zlen, sh_sI, sh_sL, sh_sR, gr_sI, gr_sL, gi_sL, gi_sR, gl_sI, gl_sR, sz_sI, sz_sL, sz_sR, gi_sI, gl_sL, gr_sR, nar20, nar22_0, nar22_1, narb0, narb1, nI_clamp, zin_nI, nI_leI, nI_ltI, nI_eq, nI_add, nI_mul, nI_sub, nI_dec, nI_lt0, nI_0le, neg1_lt, neg1_le, neg1_ne, neg1_ne2, reduceIte, eq_self, ite_true, ite_false, true_and, and_true, or_true, true_or, and_self, Nat.reduceEqDiff, Nat.reduceAdd, Nat.reduceMul, Nat.reduceSub, Nat.add_zero, Nat.zero_add, bh_mk, bc_mk, bn_mk, bo_mk, bO_mk, bF_mk, bL_mk, bT_mk, if_pos, if_neg, ng_lt, ng_le, ng_lt2, ng_le2, ng_eq, ng_eq2, ng_nn, ng_dec, ng_dec0, sb_nle, sb_nlt, bI_0, bI_1, bI_t, bI_f, bI_nar, bitW_e, c_0, c_1, c_2, c_3, c_4, c_5, c_6, c_7, c_8, c_9, c_10, c_11, c_12, c_13, c_16, c_17, c_20, c_24, c_28, c_36, c_37, c_39, c_40, c_41, c_42, c_43, c_45, c_47, c_48, c_49, c_57, c_59, c_60, c_61, c_62, c_80, c_81, c_97, c_99, c_100, c_104, c_107, c_109, c_115, c_116, c_120, c_216, c_217, c_255, c_256, c_1000, c_2000, c_9999, c_1000000, b1, c2]
    exact zW_some.mpr ⟨zJ.rfl, hb⟩
def goB (H : Nat → List Nat) : Nat → (Nat → ZB) → Nat → Nat → ZB
  | 0, B, _ => B
  | k + 1, B, d => fun p => pDay H (goB H k B d p) (d + k)
theorem goB_SI {H : Nat → List Nat} {n : Nat} {B : Nat → ZB} {d : Nat} (h : SI n B) : ∀ k, SI n (goB H k B d)
  | 0 => h
  | k + 1 => fun p hp => pDay_BI (goB_SI h k p hp)
abbrev Sn (s n : Nat) : Nat → Nat → Prop := fun a _ => s ≤ a ∧ a < s + 2 + 5 * n
theorem s_passDays {N : Nat} (hN : 10000 ≤ N) {g : ZS} {x o s n d k : Nat} {me : Nat → Nat} {B : Nat → ZB} {H : Nat → List Nat} (h1 : zsh g x = some (11, 0)) (h2 : zgr g x 2 = some o) (hl : XHl g o) (hx : XH g o H) (hH : HI H) (hs : SL (zh g) s) (hc : CS g s n d me B) (hI : SI n B) (hn : n ≤ 6) (hk : k ≤ 1000) (hd : d + k < 2 ^ 31) (d1 : o + 7 ≤ s ∨ s + 32 ≤ o) : zW (f_X11_passDays N x s (nI k) g) (fun r => r.1 = nI (d + k) ∧ zJ (Sn s n) g r.2 ∧ CS r.2 s n (d + k) me (goB H k B d)) := by
  obtain ⟨a1, a2, a3, a4⟩ := hs.f
  unfold f_X11_passDays
  rw [c_0]
  refine zW_forI (fun i g' => zJ (Sn s n) g g' ∧ CS g' s n (d + i) me (goB H i B d)) k (fun i g' hi hI' => ?_) (fun g' hI' => ?_) (by omega) (Nat.zero_le _) ⟨zJ.rfl, hc⟩
  · obtain ⟨hJ, e1, e2, e3⟩ := hI'
    have hx' : XH g' o H := hx.keep hJ (fun a j x y z => by have := z.1; have := z.2; omega)
    simp (disch := omega) only [Option.bind_some, Option.map_some, Option.bind_none, Option.bind_fun_none, zrdI, zrdR, zwrI, zwrR, zwrZ, zvs, zald, zast, zlald, zlast, zaald, zlen, sh_sI, sh_sL, sh_sR, gr_sI, gr_sL, gi_sL, gi_sR, gl_sI, gl_sR, sz_sI, sz_sL, sz_sR, gi_sI, gl_sL, gr_sR, nar20, nar22_0, nar22_1, narb0, narb1, nI_clamp, zin_nI, nI_leI, nI_ltI, nI_eq, nI_add, nI_mul, nI_sub, nI_dec, nI_lt0, nI_0le, neg1_lt, neg1_le, neg1_ne, neg1_ne2, reduceIte, eq_self, ite_true, ite_false, true_and, and_true, or_true, true_or, and_self, Nat.reduceEqDiff, Nat.reduceAdd, Nat.reduceMul, Nat.reduceSub, Nat.add_zero, Nat.zero_add, bh_mk, bc_mk, bn_mk, bo_mk, bO_mk, bF_mk, bL_mk, bT_mk, if_pos, if_neg, ng_lt, ng_le, ng_lt2, ng_le2, ng_eq, ng_eq2, ng_nn, ng_dec, ng_dec0, sb_nle, sb_nlt, bI_0, bI_1, bI_t, bI_f, bI_nar, bitW_e, c_0, c_1, c_2, c_3, c_4, c_5, c_6, c_7, c_8, c_9, c_10, c_11, c_12, c_13, c_16, c_17, c_20, c_24, c_28, c_36, c_37, c_39, c_40, c_41, c_42, c_43, c_45, c_47, c_48, c_49, c_57, c_59, c_60, c_61, c_62, c_80, c_81, c_97, c_99, c_100, c_104, c_107, c_109, c_115, c_116, c_120, c_216, c_217, c_255, c_256, c_1000, c_2000, c_9999, c_1000000, f_X11_passDays_2]
    refine zW_forI (fun p g2 => zJ (Sn s n) g' g2 ∧ zgi g2 s 1 = nI n ∧ zgi g2 s 2 = nI (d + i) ∧ ∀ q, q < n → CB g2 (s + 2 + 5 * q) (if q < p then goB H (i + 1) B d q else goB H i B d q) ∧ zgi g2 (s + 2 + 5 * q) 5 = nI (me q)) n (fun p g2 hp hI2 => ?_) (fun g2 hI2 => ?_) (by omega) (Nat.zero_le _) ⟨zJ.rfl, e1, e2, fun q hq => by rw [if_neg (by omega)]; exact e3 q hq⟩
    · obtain ⟨hJ2, f1, f2, f3⟩ := hI2
      obtain ⟨q1, q2⟩ := a4 p (by omega)
      have hJJ := hJ.trans hJ2
      obtain ⟨c1, c2⟩ := f3 p hp
      rw [if_neg (by omega)] at c1
      simp (disch := omega) only [Option.bind_some, Option.map_some, Option.bind_none, Option.bind_fun_none, zrdI, zrdR, zwrI, zwrR, zwrZ, zvs, zald, zast, zlald, zlast, zaald, zlen, sh_sI, sh_sL, sh_sR, gr_sI, gr_sL, gi_sL, gi_sR, gl_sI, gl_sR, sz_sI, sz_sL, sz_sR, gi_sI, gl_sL, gr_sR, nar20, nar22_0, nar22_1, narb0, narb1, nI_clamp, zin_nI, nI_leI, nI_ltI, nI_eq, nI_add, nI_mul, nI_sub, nI_dec, nI_lt0, nI_0le, neg1_lt, neg1_le, neg1_ne, neg1_ne2, reduceIte, eq_self, ite_true, ite_false, true_and, and_true, or_true, true_or, and_self, Nat.reduceEqDiff, Nat.reduceAdd, Nat.reduceMul, Nat.reduceSub, Nat.add_zero, Nat.zero_add, bh_mk, bc_mk, bn_mk, bo_mk, bO_mk, bF_mk, bL_mk, bT_mk, if_pos, if_neg, ng_lt, ng_le, ng_lt2, ng_le2, ng_eq, ng_eq2, ng_nn, ng_dec, ng_dec0, sb_nle, sb_nlt, bI_0, bI_1, bI_t, bI_f, bI_nar, bitW_e, c_0, c_1, c_2, c_3, c_4, c_5, c_6, c_7, c_8, c_9, c_10, c_11, c_12, c_13, c_16, c_17, c_20, c_24, c_28, c_36, c_37, c_39, c_40, c_41, c_42, c_43, c_45, c_47, c_48, c_49, c_57, c_59, c_60, c_61, c_62, c_80, c_81, c_97, c_99, c_100, c_104, c_107, c_109, c_115, c_116, c_120, c_216, c_217, c_255, c_256, c_1000, c_2000, c_9999, c_1000000, f_X11_passDays_10, hJJ.sh, hJJ.gr, a1, a2, a3, q1, f1, f2, h1]
      refine (s_listen (by rw [hJJ.sh]; exact h1) (by rw [hJJ.gr]; exact h2) (hl.J hJJ) (hx'.keep hJ2 (fun a j x y z => by have := z.1; have := z.2; omega)) hH (by rw [hJJ.1]; exact q2) c1 (goB_SI hI i p hp) (by omega)).bind (fun g5 h5 => ?_)
      obtain ⟨y1, y2⟩ := h5
      rw [zW_some, zI_inl]
      refine ⟨rfl, hJ2.trans (y1.mono (fun a j z => ⟨by have := z.1; omega, by have := z.2.1; omega⟩)), ?_, ?_, fun q hq => ?_⟩
      · rw [y1.gi (by rintro ⟨z1, z2, z3⟩; omega)]; exact f1
      · rw [y1.gi (by rintro ⟨z1, z2, z3⟩; omega)]; exact f2
      · by_cases e : q = p
        · subst e
          rw [if_pos (by omega)]
          exact ⟨y2, by rw [y1.gi (by rintro ⟨z1, z2, z3⟩; omega)]; exact c2⟩
        · obtain ⟨u1, u2⟩ := f3 q hq
          have hif : (if q < p + 1 then goB H (i + 1) B d q else goB H i B d q) = (if q < p then goB H (i + 1) B d q else goB H i B d q) := by
            by_cases h : q < p
            · rw [if_pos h, if_pos (by omega)]
            · rw [if_neg h, if_neg (by omega)]
          rw [hif]
          exact ⟨u1.keepJ y1 (fun a j z w => by have := z.1; have := z.2.1; have := w.1; have := w.2.1; omega), by rw [y1.gi (by rintro ⟨z1, z2, z3⟩; omega)]; exact u2⟩
    · obtain ⟨hJ2, f1, f2, f3⟩ := hI2
      have hJJ := hJ.trans hJ2
      simp (disch := omega) only [Option.bind_some, Option.map_some, Option.bind_none, Option.bind_fun_none, zrdI, zrdR, zwrI, zwrR, zwrZ, zvs, zald, zast, zlald, zlast, zaald, zlen, sh_sI, sh_sL, sh_sR, gr_sI, gr_sL, gi_sL, gi_sR, gl_sI, gl_sR, sz_sI, sz_sL, sz_sR, gi_sI, gl_sL, gr_sR, nar20, nar22_0, nar22_1, narb0, narb1, nI_clamp, zin_nI, nI_leI, nI_ltI, nI_eq, nI_add, nI_mul, nI_sub, nI_dec, nI_lt0, nI_0le, neg1_lt, neg1_le, neg1_ne, neg1_ne2, reduceIte, eq_self, ite_true, ite_false, true_and, and_true, or_true, true_or, and_self, Nat.reduceEqDiff, Nat.reduceAdd, Nat.reduceMul, Nat.reduceSub, Nat.add_zero, Nat.zero_add, bh_mk, bc_mk, bn_mk, bo_mk, bO_mk, bF_mk, bL_mk, bT_mk, if_pos, if_neg, ng_lt, ng_le, ng_lt2, ng_le2, ng_eq, ng_eq2, ng_nn, ng_dec, ng_dec0, sb_nle, sb_nlt, bI_0, bI_1, bI_t, bI_f, bI_nar, bitW_e, c_0, c_1, c_2, c_3, c_4, c_5, c_6, c_7, c_8, c_9, c_10, c_11, c_12, c_13, c_16, c_17, c_20, c_24, c_28, c_36, c_37, c_39, c_40, c_41, c_42, c_43, c_45, c_47, c_48, c_49, c_57, c_59, c_60, c_61, c_62, c_80, c_81, c_97, c_99, c_100, c_104, c_107, c_109, c_115, c_116, c_120, c_216, c_217, c_255, c_256, c_1000, c_2000, c_9999, c_1000000, f_X11_passDays_10, hJJ.sh, hJJ.gr, a1, f1, f2, zW_some, zI_inr, zI_inl, true_and]
      refine ⟨hJJ.setI' ⟨by omega, by omega⟩, ?_, ?_, fun q hq => ?_⟩
      · simp (disch := omega) only [Option.bind_some, Option.map_some, Option.bind_none, Option.bind_fun_none, zrdI, zrdR, zwrI, zwrR, zwrZ, zvs, zald, zast, zlald, zlast, zaald, zlen, sh_sI, sh_sL, sh_sR, gr_sI, gr_sL, gi_sL, gi_sR, gl_sI, gl_sR, sz_sI, sz_sL, sz_sR, gi_sI, gl_sL, gr_sR, nar20, nar22_0, nar22_1, narb0, narb1, nI_clamp, zin_nI, nI_leI, nI_ltI, nI_eq, nI_add, nI_mul, nI_sub, nI_dec, nI_lt0, nI_0le, neg1_lt, neg1_le, neg1_ne, neg1_ne2, reduceIte, eq_self, ite_true, ite_false, true_and, and_true, or_true, true_or, and_self, Nat.reduceEqDiff, Nat.reduceAdd, Nat.reduceMul, Nat.reduceSub, Nat.add_zero, Nat.zero_add, bh_mk, bc_mk, bn_mk, bo_mk, bO_mk, bF_mk, bL_mk, bT_mk, if_pos, if_neg, ng_lt, ng_le, ng_lt2, ng_le2, ng_eq, ng_eq2, ng_nn, ng_dec, ng_dec0, sb_nle, sb_nlt, bI_0, bI_1, bI_t, bI_f, bI_nar, bitW_e, c_0, c_1, c_2, c_3, c_4, c_5, c_6, c_7, c_8, c_9, c_10, c_11, c_12, c_13, c_16, c_17, c_20, c_24, c_28, c_36, c_37, c_39, c_40, c_41, c_42, c_43, c_45, c_47, c_48, c_49, c_57, c_59, c_60, c_61, c_62, c_80, c_81, c_97, c_99, c_100, c_104, c_107, c_109, c_115, c_116, c_120, c_216, c_217, c_255, c_256, c_1000, c_2000, c_9999, c_1000000, f1]
      · simp (disch := omega) only [Option.bind_some, Option.map_some, Option.bind_none, Option.bind_fun_none, zrdI, zrdR, zwrI, zwrR, zwrZ, zvs, zald, zast, zlald, zlast, zaald, zlen, sh_sI, sh_sL, sh_sR, gr_sI, gr_sL, gi_sL, gi_sR, gl_sI, gl_sR, sz_sI, sz_sL, sz_sR, gi_sI, gl_sL, gr_sR, nar20, nar22_0, nar22_1, narb0, narb1, nI_clamp, zin_nI, nI_leI, nI_ltI, nI_eq, nI_add, nI_mul, nI_sub, nI_dec, nI_lt0, nI_0le, neg1_lt, neg1_le, neg1_ne, neg1_ne2, reduceIte, eq_self, ite_true, ite_false, true_and, and_true, or_true, true_or, and_self, Nat.reduceEqDiff, Nat.reduceAdd, Nat.reduceMul, Nat.reduceSub, Nat.add_zero, Nat.zero_add, bh_mk, bc_mk, bn_mk, bo_mk, bO_mk, bF_mk, bL_mk, bT_mk, if_pos, if_neg, ng_lt, ng_le, ng_lt2, ng_le2, ng_eq, ng_eq2, ng_nn, ng_dec, ng_dec0, sb_nle, sb_nlt, bI_0, bI_1, bI_t, bI_f, bI_nar, bitW_e, c_0, c_1, c_2, c_3, c_4, c_5, c_6, c_7, c_8, c_9, c_10, c_11, c_12, c_13, c_16, c_17, c_20, c_24, c_28, c_36, c_37, c_39, c_40, c_41, c_42, c_43, c_45, c_47, c_48, c_49, c_57, c_59, c_60, c_61, c_62, c_80, c_81, c_97, c_99, c_100, c_104, c_107, c_109, c_115, c_116, c_120, c_216, c_217, c_255, c_256, c_1000, c_2000, c_9999, c_1000000]
        rfl
      · obtain ⟨u1, u2⟩ := f3 q hq
        rw [if_pos hq] at u1
        have hJ3 : zJ (fun a j => a = s ∧ j = 2) g2 (zsetI g2 s 2 (nI (d + i + 1))) := zJ.setI ⟨rfl, rfl⟩
        exact ⟨u1.keepJ hJ3 (fun a j z w => by have := z.1; omega), by rw [hJ3.gi (by omega)]; exact u2⟩
  · obtain ⟨hJ, e1, e2, e3⟩ := hI'
    simp (disch := omega) only [Option.bind_some, Option.map_some, Option.bind_none, Option.bind_fun_none, zrdI, zrdR, zwrI, zwrR, zwrZ, zvs, zald, zast, zlald, zlast, zaald, zlen, sh_sI, sh_sL, sh_sR, gr_sI, gr_sL, gi_sL, gi_sR, gl_sI, gl_sR, sz_sI, sz_sL, sz_sR, gi_sI, gl_sL, gr_sR, nar20, nar22_0, nar22_1, narb0, narb1, nI_clamp, zin_nI, nI_leI, nI_ltI, nI_eq, nI_add, nI_mul, nI_sub, nI_dec, nI_lt0, nI_0le, neg1_lt, neg1_le, neg1_ne, neg1_ne2, reduceIte, eq_self, ite_true, ite_false, true_and, and_true, or_true, true_or, and_self, Nat.reduceEqDiff, Nat.reduceAdd, Nat.reduceMul, Nat.reduceSub, Nat.add_zero, Nat.zero_add, bh_mk, bc_mk, bn_mk, bo_mk, bO_mk, bF_mk, bL_mk, bT_mk, if_pos, if_neg, ng_lt, ng_le, ng_lt2, ng_le2, ng_eq, ng_eq2, ng_nn, ng_dec, ng_dec0, sb_nle, sb_nlt, bI_0, bI_1, bI_t, bI_f, bI_nar, bitW_e, c_0, c_1, c_2, c_3, c_4, c_5, c_6, c_7, c_8, c_9, c_10, c_11, c_12, c_13, c_16, c_17, c_20, c_24, c_28, c_36, c_37, c_39, c_40, c_41, c_42, c_43, c_45, c_47, c_48, c_49, c_57, c_59, c_60, c_61, c_62, c_80, c_81, c_97, c_99, c_100, c_104, c_107, c_109, c_115, c_116, c_120, c_216, c_217, c_255, c_256, c_1000, c_2000, c_9999, c_1000000, f_X11_passDays_2, hJ.sh, a1, e2, zW_some, zI_inr]
    exact ⟨hJ, e1, e2, e3⟩
