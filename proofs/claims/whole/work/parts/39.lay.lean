/-! ===== the reference: frames, rows, undos, what is said ===== -/
def zM (m : Nat) (S : Nat → Nat → Prop) (g g' : ZS) : Prop := zsh g' = zsh g ∧ zsz g' = zsz g ∧ (∀ a j, ¬ (a = m ∧ j = 11) → zgr g' a j = zgr g a j) ∧ ∀ a j, ¬ S a j → zgi g' a j = zgi g a j ∧ zgl g' a j = zgl g a j
section ZM
variable {m : Nat} {S : Nat → Nat → Prop} {g g' g'' : ZS}
theorem zM.rfl : zM m S g g := ⟨_root_.rfl, _root_.rfl, fun _ _ _ => _root_.rfl, fun _ _ _ => ⟨_root_.rfl, _root_.rfl⟩⟩
theorem zJ.toM (h : zJ S g g') : zM m S g g' := ⟨h.sh, h.2.1, fun a j _ => by rw [h.gr], h.2.2⟩
theorem zM.trans (h : zM m S g g') (h' : zM m S g' g'') : zM m S g g'' := ⟨h'.1.trans h.1, h'.2.1.trans h.2.1, fun a j n => (h'.2.2.1 a j n).trans (h.2.2.1 a j n), fun a j n => ⟨(h'.2.2.2 a j n).1.trans (h.2.2.2 a j n).1, (h'.2.2.2 a j n).2.trans (h.2.2.2 a j n).2⟩⟩
theorem zM.mono {S' : Nat → Nat → Prop} (h : zM m S g g') (hS : ∀ a j, S a j → S' a j) : zM m S' g g' := ⟨h.1, h.2.1, h.2.2.1, fun a j hn => h.2.2.2 a j (fun hs => hn (hS a j hs))⟩
theorem zM.gi (h : zM m S g g') {a j : Nat} (hn : ¬ S a j) : zgi g' a j = zgi g a j := (h.2.2.2 a j hn).1
theorem zM.gl (h : zM m S g g') {a j : Nat} (hn : ¬ S a j) : zgl g' a j = zgl g a j := (h.2.2.2 a j hn).2
theorem zM.sh (h : zM m S g g') : zsh g' = zsh g := h.1
theorem zM.gr (h : zM m S g g') {a j : Nat} (hn : ¬ (a = m ∧ j = 11)) : zgr g' a j = zgr g a j := h.2.2.1 a j hn
theorem zM.setI' {a j : Nat} {v : Int32} (h : zM m S g g') (hS : S a j) : zM m S g (zsetI g' a j v) := h.trans (zJ.setI hS).toM
theorem zM.setL' {a j : Nat} {v : Int64} (h : zM m S g g') (hS : S a j) : zM m S g (zsetL g' a j v) := h.trans (zJ.setL hS).toM
theorem zM.setR' {b : Option Nat} (h : zM m S g g') : zM m S g (zsetR g' m 11 b) := h.trans ⟨_root_.rfl, _root_.rfl, fun a j n => by rw [gr_sR, if_neg n], fun _ _ _ => ⟨_root_.rfl, _root_.rfl⟩⟩
end ZM
theorem LR.move {m : Nat} {h0 h1 : ZH} (h : LR m h0) (e : ∀ a, h1.1 a = h0.1 a) (f : ∀ j, j ≠ 11 → j ≠ 17 → j ≠ 18 → h1.2 m j = h0.2 m j) : LR m h1 := ⟨(e _).trans h.1, (e _).trans h.2.1, (e _).trans h.2.2.1, (e _).trans h.2.2.2.1, (e _).trans h.2.2.2.2.1, (e _).trans h.2.2.2.2.2.1, (e _).trans h.2.2.2.2.2.2.1, (e _).trans h.2.2.2.2.2.2.2.1, (e _).trans h.2.2.2.2.2.2.2.2.1, (e _).trans h.2.2.2.2.2.2.2.2.2.1, (e _).trans h.2.2.2.2.2.2.2.2.2.2.1, (e _).trans h.2.2.2.2.2.2.2.2.2.2.2.1, (e _).trans h.2.2.2.2.2.2.2.2.2.2.2.2.1, (e _).trans h.2.2.2.2.2.2.2.2.2.2.2.2.2.1, (e _).trans h.2.2.2.2.2.2.2.2.2.2.2.2.2.2.1, (e _).trans h.2.2.2.2.2.2.2.2.2.2.2.2.2.2.2.1, (e _).trans h.2.2.2.2.2.2.2.2.2.2.2.2.2.2.2.2.1, (e _).trans h.2.2.2.2.2.2.2.2.2.2.2.2.2.2.2.2.2.1, (e _).trans h.2.2.2.2.2.2.2.2.2.2.2.2.2.2.2.2.2.2.1, (e _).trans h.2.2.2.2.2.2.2.2.2.2.2.2.2.2.2.2.2.2.2.1, (e _).trans h.2.2.2.2.2.2.2.2.2.2.2.2.2.2.2.2.2.2.2.2.1, (e _).trans h.2.2.2.2.2.2.2.2.2.2.2.2.2.2.2.2.2.2.2.2.2.1, (e _).trans h.2.2.2.2.2.2.2.2.2.2.2.2.2.2.2.2.2.2.2.2.2.2.1, (e _).trans h.2.2.2.2.2.2.2.2.2.2.2.2.2.2.2.2.2.2.2.2.2.2.2.1, (e _).trans h.2.2.2.2.2.2.2.2.2.2.2.2.2.2.2.2.2.2.2.2.2.2.2.2.1, (e _).trans h.2.2.2.2.2.2.2.2.2.2.2.2.2.2.2.2.2.2.2.2.2.2.2.2.2.1, (e _).trans h.2.2.2.2.2.2.2.2.2.2.2.2.2.2.2.2.2.2.2.2.2.2.2.2.2.2.1, (e _).trans h.2.2.2.2.2.2.2.2.2.2.2.2.2.2.2.2.2.2.2.2.2.2.2.2.2.2.2.1, (e _).trans h.2.2.2.2.2.2.2.2.2.2.2.2.2.2.2.2.2.2.2.2.2.2.2.2.2.2.2.2.1, (e _).trans h.2.2.2.2.2.2.2.2.2.2.2.2.2.2.2.2.2.2.2.2.2.2.2.2.2.2.2.2.2.1, (e _).trans h.2.2.2.2.2.2.2.2.2.2.2.2.2.2.2.2.2.2.2.2.2.2.2.2.2.2.2.2.2.2.1, (e _).trans h.2.2.2.2.2.2.2.2.2.2.2.2.2.2.2.2.2.2.2.2.2.2.2.2.2.2.2.2.2.2.2.1, (e _).trans h.2.2.2.2.2.2.2.2.2.2.2.2.2.2.2.2.2.2.2.2.2.2.2.2.2.2.2.2.2.2.2.2.1, (f _ (by decide) (by decide) (by decide)).trans h.2.2.2.2.2.2.2.2.2.2.2.2.2.2.2.2.2.2.2.2.2.2.2.2.2.2.2.2.2.2.2.2.2.1, (f _ (by decide) (by decide) (by decide)).trans h.2.2.2.2.2.2.2.2.2.2.2.2.2.2.2.2.2.2.2.2.2.2.2.2.2.2.2.2.2.2.2.2.2.2.1, (f _ (by decide) (by decide) (by decide)).trans h.2.2.2.2.2.2.2.2.2.2.2.2.2.2.2.2.2.2.2.2.2.2.2.2.2.2.2.2.2.2.2.2.2.2.2.1, (f _ (by decide) (by decide) (by decide)).trans h.2.2.2.2.2.2.2.2.2.2.2.2.2.2.2.2.2.2.2.2.2.2.2.2.2.2.2.2.2.2.2.2.2.2.2.2.1, (f _ (by decide) (by decide) (by decide)).trans h.2.2.2.2.2.2.2.2.2.2.2.2.2.2.2.2.2.2.2.2.2.2.2.2.2.2.2.2.2.2.2.2.2.2.2.2.2.1, (f _ (by decide) (by decide) (by decide)).trans h.2.2.2.2.2.2.2.2.2.2.2.2.2.2.2.2.2.2.2.2.2.2.2.2.2.2.2.2.2.2.2.2.2.2.2.2.2.2.1, (f _ (by decide) (by decide) (by decide)).trans h.2.2.2.2.2.2.2.2.2.2.2.2.2.2.2.2.2.2.2.2.2.2.2.2.2.2.2.2.2.2.2.2.2.2.2.2.2.2.2.1, (f _ (by decide) (by decide) (by decide)).trans h.2.2.2.2.2.2.2.2.2.2.2.2.2.2.2.2.2.2.2.2.2.2.2.2.2.2.2.2.2.2.2.2.2.2.2.2.2.2.2.2.1, (f _ (by decide) (by decide) (by decide)).trans h.2.2.2.2.2.2.2.2.2.2.2.2.2.2.2.2.2.2.2.2.2.2.2.2.2.2.2.2.2.2.2.2.2.2.2.2.2.2.2.2.2.1, (f _ (by decide) (by decide) (by decide)).trans h.2.2.2.2.2.2.2.2.2.2.2.2.2.2.2.2.2.2.2.2.2.2.2.2.2.2.2.2.2.2.2.2.2.2.2.2.2.2.2.2.2.2.1, (f _ (by decide) (by decide) (by decide)).trans h.2.2.2.2.2.2.2.2.2.2.2.2.2.2.2.2.2.2.2.2.2.2.2.2.2.2.2.2.2.2.2.2.2.2.2.2.2.2.2.2.2.2.2.1, (f _ (by decide) (by decide) (by decide)).trans h.2.2.2.2.2.2.2.2.2.2.2.2.2.2.2.2.2.2.2.2.2.2.2.2.2.2.2.2.2.2.2.2.2.2.2.2.2.2.2.2.2.2.2.2.1, (f _ (by decide) (by decide) (by decide)).trans h.2.2.2.2.2.2.2.2.2.2.2.2.2.2.2.2.2.2.2.2.2.2.2.2.2.2.2.2.2.2.2.2.2.2.2.2.2.2.2.2.2.2.2.2.2.1, (f _ (by decide) (by decide) (by decide)).trans h.2.2.2.2.2.2.2.2.2.2.2.2.2.2.2.2.2.2.2.2.2.2.2.2.2.2.2.2.2.2.2.2.2.2.2.2.2.2.2.2.2.2.2.2.2.2.1, (f _ (by decide) (by decide) (by decide)).trans h.2.2.2.2.2.2.2.2.2.2.2.2.2.2.2.2.2.2.2.2.2.2.2.2.2.2.2.2.2.2.2.2.2.2.2.2.2.2.2.2.2.2.2.2.2.2.2.1, (f _ (by decide) (by decide) (by decide)).trans h.2.2.2.2.2.2.2.2.2.2.2.2.2.2.2.2.2.2.2.2.2.2.2.2.2.2.2.2.2.2.2.2.2.2.2.2.2.2.2.2.2.2.2.2.2.2.2.2.1, (f _ (by decide) (by decide) (by decide)).trans h.2.2.2.2.2.2.2.2.2.2.2.2.2.2.2.2.2.2.2.2.2.2.2.2.2.2.2.2.2.2.2.2.2.2.2.2.2.2.2.2.2.2.2.2.2.2.2.2.2.1, (f _ (by decide) (by decide) (by decide)).trans h.2.2.2.2.2.2.2.2.2.2.2.2.2.2.2.2.2.2.2.2.2.2.2.2.2.2.2.2.2.2.2.2.2.2.2.2.2.2.2.2.2.2.2.2.2.2.2.2.2.2.1, (f _ (by decide) (by decide) (by decide)).trans h.2.2.2.2.2.2.2.2.2.2.2.2.2.2.2.2.2.2.2.2.2.2.2.2.2.2.2.2.2.2.2.2.2.2.2.2.2.2.2.2.2.2.2.2.2.2.2.2.2.2.2.1, (f _ (by decide) (by decide) (by decide)).trans h.2.2.2.2.2.2.2.2.2.2.2.2.2.2.2.2.2.2.2.2.2.2.2.2.2.2.2.2.2.2.2.2.2.2.2.2.2.2.2.2.2.2.2.2.2.2.2.2.2.2.2.2.1, (f _ (by decide) (by decide) (by decide)).trans h.2.2.2.2.2.2.2.2.2.2.2.2.2.2.2.2.2.2.2.2.2.2.2.2.2.2.2.2.2.2.2.2.2.2.2.2.2.2.2.2.2.2.2.2.2.2.2.2.2.2.2.2.2.1, (f _ (by decide) (by decide) (by decide)).trans h.2.2.2.2.2.2.2.2.2.2.2.2.2.2.2.2.2.2.2.2.2.2.2.2.2.2.2.2.2.2.2.2.2.2.2.2.2.2.2.2.2.2.2.2.2.2.2.2.2.2.2.2.2.2.1, (f _ (by decide) (by decide) (by decide)).trans h.2.2.2.2.2.2.2.2.2.2.2.2.2.2.2.2.2.2.2.2.2.2.2.2.2.2.2.2.2.2.2.2.2.2.2.2.2.2.2.2.2.2.2.2.2.2.2.2.2.2.2.2.2.2.2.1, (f _ (by decide) (by decide) (by decide)).trans h.2.2.2.2.2.2.2.2.2.2.2.2.2.2.2.2.2.2.2.2.2.2.2.2.2.2.2.2.2.2.2.2.2.2.2.2.2.2.2.2.2.2.2.2.2.2.2.2.2.2.2.2.2.2.2.2.1, (f _ (by decide) (by decide) (by decide)).trans h.2.2.2.2.2.2.2.2.2.2.2.2.2.2.2.2.2.2.2.2.2.2.2.2.2.2.2.2.2.2.2.2.2.2.2.2.2.2.2.2.2.2.2.2.2.2.2.2.2.2.2.2.2.2.2.2.2.1, (f _ (by decide) (by decide) (by decide)).trans h.2.2.2.2.2.2.2.2.2.2.2.2.2.2.2.2.2.2.2.2.2.2.2.2.2.2.2.2.2.2.2.2.2.2.2.2.2.2.2.2.2.2.2.2.2.2.2.2.2.2.2.2.2.2.2.2.2.2.1, (f _ (by decide) (by decide) (by decide)).trans h.2.2.2.2.2.2.2.2.2.2.2.2.2.2.2.2.2.2.2.2.2.2.2.2.2.2.2.2.2.2.2.2.2.2.2.2.2.2.2.2.2.2.2.2.2.2.2.2.2.2.2.2.2.2.2.2.2.2.2.1, (f _ (by decide) (by decide) (by decide)).trans h.2.2.2.2.2.2.2.2.2.2.2.2.2.2.2.2.2.2.2.2.2.2.2.2.2.2.2.2.2.2.2.2.2.2.2.2.2.2.2.2.2.2.2.2.2.2.2.2.2.2.2.2.2.2.2.2.2.2.2.2.1, (f _ (by decide) (by decide) (by decide)).trans h.2.2.2.2.2.2.2.2.2.2.2.2.2.2.2.2.2.2.2.2.2.2.2.2.2.2.2.2.2.2.2.2.2.2.2.2.2.2.2.2.2.2.2.2.2.2.2.2.2.2.2.2.2.2.2.2.2.2.2.2.2.1, (f _ (by decide) (by decide) (by decide)).trans h.2.2.2.2.2.2.2.2.2.2.2.2.2.2.2.2.2.2.2.2.2.2.2.2.2.2.2.2.2.2.2.2.2.2.2.2.2.2.2.2.2.2.2.2.2.2.2.2.2.2.2.2.2.2.2.2.2.2.2.2.2.2⟩
theorem LR.M {m : Nat} {S : Nat → Nat → Prop} {g g' : ZS} (h : LR m (zh g)) (hM : zM m S g g') : LR m (zh g') := h.move (fun a => congrFun hM.sh a) (fun j hj _ _ => hM.gr (fun x => hj x.2))
theorem LR.J {m : Nat} {S : Nat → Nat → Prop} {g g' : ZS} (h : LR m (zh g)) (hJ : zJ S g g') : LR m (zh g') := by rw [hJ.1]; exact h
/-! copies -/
theorem s_lay {N : Nat} (hN : 10000 ≤ N) {g : ZS} {a b k lb : Nat} (ha : zsh g a = some (20, 217)) (hb : zsh g b = some (20, lb)) (hk : k + 217 ≤ lb) (hlb : lb ≤ 3000) (hab : a ≠ b) : zW (f_X12_lay N a b (nI k) g) (fun g' => zJ (fun x j => x = b ∧ k ≤ j ∧ j < k + 217) g g' ∧ ∀ i, i < 217 → zgi g' b (k + i) = zgi g a i) := by
  unfold f_X12_lay
  rw [c_0]
  refine zW_forI (fun i g' => zJ (fun x j => x = b ∧ k ≤ j ∧ j < k + 217) g g' ∧ ∀ j, j < i → zgi g' b (k + j) = zgi g a j) 217 (fun i g' hi hI => ?_) (fun g' hI => ?_) (by omega) (Nat.zero_le _) ⟨zJ.rfl, fun j hj => by omega⟩
  · obtain ⟨hJ, e⟩ := hI
    have e1 : zgi g' a i = zgi g a i := hJ.gi (by omega)
    simp (disch := omega) only [Option.bind_some, Option.map_some, Option.bind_none, Option.bind_fun_none, zrdI, zrdR, zwrI, zwrR, zwrZ, zvs, zald, zast, zlald, zlast, zaald, zlen, sh_sI, sh_sL, sh_sR, gr_sI, gr_sL, gi_sL, gi_sR, gl_sI, gl_sR, sz_sI, sz_sL, sz_sR, gi_sI, gl_sL, gr_sR, nar20, nar22_0, nar22_1, narb0, narb1, nI_clamp, zin_nI, nI_leI, nI_ltI, nI_eq, nI_add, nI_mul, nI_sub, nI_dec, nI_lt0, nI_0le, neg1_lt, neg1_le, neg1_ne, neg1_ne2, reduceIte, eq_self, ite_true, ite_false, true_and, and_true, or_true, true_or, and_self, Nat.reduceEqDiff, Nat.reduceAdd, Nat.reduceMul, Nat.reduceSub, Nat.add_zero, Nat.zero_add, bh_mk, bc_mk, bn_mk, bo_mk, bO_mk, bF_mk, bL_mk, bT_mk, if_pos, if_neg, ng_lt, ng_le, ng_lt2, ng_le2, ng_eq, ng_eq2, ng_nn, ng_dec, ng_dec0, sb_nle, sb_nlt, bI_0, bI_1, bI_t, bI_f, bI_nar, bitW_e, c_0, c_1, c_2, c_3, c_4, c_5, c_6, c_7, c_8, c_9, c_10, c_11, c_12, c_13, c_16, c_17, c_20, c_24, c_28, c_36, c_37, c_39, c_40, c_41, c_42, c_43, c_45, c_47, c_48, c_49, c_57, c_59, c_60, c_61, c_62, c_80, c_81, c_97, c_99, c_100, c_104, c_107, c_109, c_115, c_116, c_120, c_216, c_217, c_255, c_256, c_1000, c_2000, c_9999, c_1000000, f_X12_lay_2, hJ.sh, ha, hb, e1]
    rw [zW_some, zI_inl]
    refine ⟨rfl, hJ.setI' ⟨rfl, by omega, by omega⟩, fun j hj => ?_⟩
    by_cases h : j = i
    · subst h; simp (disch := omega) only [Option.bind_some, Option.map_some, Option.bind_none, Option.bind_fun_none, zrdI, zrdR, zwrI, zwrR, zwrZ, zvs, zald, zast, zlald, zlast, zaald, zlen, sh_sI, sh_sL, sh_sR, gr_sI, gr_sL, gi_sL, gi_sR, gl_sI, gl_sR, sz_sI, sz_sL, sz_sR, gi_sI, gl_sL, gr_sR, nar20, nar22_0, nar22_1, narb0, narb1, nI_clamp, zin_nI, nI_leI, nI_ltI, nI_eq, nI_add, nI_mul, nI_sub, nI_dec, nI_lt0, nI_0le, neg1_lt, neg1_le, neg1_ne, neg1_ne2, reduceIte, eq_self, ite_true, ite_false, true_and, and_true, or_true, true_or, and_self, Nat.reduceEqDiff, Nat.reduceAdd, Nat.reduceMul, Nat.reduceSub, Nat.add_zero, Nat.zero_add, bh_mk, bc_mk, bn_mk, bo_mk, bO_mk, bF_mk, bL_mk, bT_mk, if_pos, if_neg, ng_lt, ng_le, ng_lt2, ng_le2, ng_eq, ng_eq2, ng_nn, ng_dec, ng_dec0, sb_nle, sb_nlt, bI_0, bI_1, bI_t, bI_f, bI_nar, bitW_e, c_0, c_1, c_2, c_3, c_4, c_5, c_6, c_7, c_8, c_9, c_10, c_11, c_12, c_13, c_16, c_17, c_20, c_24, c_28, c_36, c_37, c_39, c_40, c_41, c_42, c_43, c_45, c_47, c_48, c_49, c_57, c_59, c_60, c_61, c_62, c_80, c_81, c_97, c_99, c_100, c_104, c_107, c_109, c_115, c_116, c_120, c_216, c_217, c_255, c_256, c_1000, c_2000, c_9999, c_1000000]
    · have := e j (by omega); simp (disch := omega) only [Option.bind_some, Option.map_some, Option.bind_none, Option.bind_fun_none, zrdI, zrdR, zwrI, zwrR, zwrZ, zvs, zald, zast, zlald, zlast, zaald, zlen, sh_sI, sh_sL, sh_sR, gr_sI, gr_sL, gi_sL, gi_sR, gl_sI, gl_sR, sz_sI, sz_sL, sz_sR, gi_sI, gl_sL, gr_sR, nar20, nar22_0, nar22_1, narb0, narb1, nI_clamp, zin_nI, nI_leI, nI_ltI, nI_eq, nI_add, nI_mul, nI_sub, nI_dec, nI_lt0, nI_0le, neg1_lt, neg1_le, neg1_ne, neg1_ne2, reduceIte, eq_self, ite_true, ite_false, true_and, and_true, or_true, true_or, and_self, Nat.reduceEqDiff, Nat.reduceAdd, Nat.reduceMul, Nat.reduceSub, Nat.add_zero, Nat.zero_add, bh_mk, bc_mk, bn_mk, bo_mk, bO_mk, bF_mk, bL_mk, bT_mk, if_pos, if_neg, ng_lt, ng_le, ng_lt2, ng_le2, ng_eq, ng_eq2, ng_nn, ng_dec, ng_dec0, sb_nle, sb_nlt, bI_0, bI_1, bI_t, bI_f, bI_nar, bitW_e, c_0, c_1, c_2, c_3, c_4, c_5, c_6, c_7, c_8, c_9, c_10, c_11, c_12, c_13, c_16, c_17, c_20, c_24, c_28, c_36, c_37, c_39, c_40, c_41, c_42, c_43, c_45, c_47, c_48, c_49, c_57, c_59, c_60, c_61, c_62, c_80, c_81, c_97, c_99, c_100, c_104, c_107, c_109, c_115, c_116, c_120, c_216, c_217, c_255, c_256, c_1000, c_2000, c_9999, c_1000000, this]
  · obtain ⟨hJ, e⟩ := hI
    show zW (f_X12_lay_2 N a b (nI k) (nI 217) g') _
    unfold f_X12_lay_2
    rw [c_217, if_pos (nI_le (Nat.le_refl _) (by omega)), Option.map_some, zW_some, zI_inr]
    exact ⟨hJ, e⟩
theorem RB.at {g g' : ZS} {a a' o o' : Nat} {b : ZB} (h : RB g a o b) (e : ∀ j, j < 36 → zgi g' a' (o' + j) = zgi g a (o + j)) : RB g' a' o' b := by
  obtain ⟨h1, h2, h3, h4, h5⟩ := h
  refine ⟨by have := e 0 (by omega); rw [Nat.add_zero, Nat.add_zero] at this; rw [this]; exact h1, by rw [e 1 (by omega)]; exact h2, by rw [e 2 (by omega)]; exact h3, by rw [e 3 (by omega)]; exact h4, fun w hw => ?_⟩
  obtain ⟨k1, k2, k3, k4⟩ := h5 w hw
  exact ⟨by rw [e _ (by omega)]; exact k1, by rw [e _ (by omega)]; exact k2, by rw [e _ (by omega)]; exact k3, by rw [e _ (by omega)]; exact k4⟩
theorem RS.at {g g' : ZS} {a a' k k' n d : Nat} {B : Nat → ZB} (h : RS g a k n d B) (hn : n ≤ 6) (e : ∀ j, j < 217 → zgi g' a' (k' + j) = zgi g a (k + j)) : RS g' a' k' n d B :=
  ⟨by rw [e 216 (by omega)]; exact h.1, fun p hp => (h.2 p hp).at (fun j hj => by rw [Nat.add_assoc, Nat.add_assoc]; exact e _ (by omega))⟩
theorem RN.to {g g' : ZS} {a a' k n d : Nat} {B : Nat → ZB} (h : RN g a n d B) (hn : n ≤ 6) (e : ∀ j, j < 217 → zgi g' a' (k + j) = zgi g a j) : RS g' a' k n d B :=
  ⟨by rw [e 216 (by omega)]; exact h.1, fun p hp => (h.2 p hp).at (fun j hj => by rw [Nat.add_assoc]; exact e _ (by omega))⟩
theorem RS.to {g g' : ZS} {a a' k n d : Nat} {B : Nat → ZB} (h : RS g a k n d B) (hn : n ≤ 6) (e : ∀ j, j < 217 → zgi g' a' j = zgi g a (k + j)) : RN g' a' n d B :=
  ⟨by rw [e 216 (by omega)]; exact h.1, fun p hp => (h.2 p hp).at (fun j hj => by rw [Nat.add_assoc]; exact e _ (by omega))⟩
theorem RN.cp {g g' : ZS} {a a' n d : Nat} {B : Nat → ZB} (h : RN g a n d B) (hn : n ≤ 6) (e : ∀ j, j < 217 → zgi g' a' (0 + j) = zgi g a j) : RN g' a' n d B :=
  ⟨by rw [← h.1, ← e 216 (by omega), Nat.zero_add], fun p hp => (h.2 p hp).at (fun j hj => by rw [← e (36 * p + j) (by omega), Nat.zero_add])⟩
/-! what can be undone -/
abbrev ZU : Type := (Nat → ZB) × Nat
def u0 : ZU := (fun _ => (0, 0, 0, 0, fun _ => 0, fun _ => 0, fun _ => 0, fun _ => 0), 0)
def pU (U : List ZU) (v : ZU) : List ZU := (if U.length = 12 then U.tail else U) ++ [v]
theorem getD_ap {α : Type} {l : List α} {v d : α} {j : Nat} : (l ++ [v]).getD j d = if j < l.length then l.getD j d else if j = l.length then v else d := by
  rw [List.getD_eq_getElem?_getD, List.getD_eq_getElem?_getD, List.getElem?_append]
  by_cases e : j < l.length
  · rw [if_pos e, if_pos e]
  · rw [if_neg e, if_neg e]
    by_cases e2 : j = l.length
    · subst e2; simp
    · rw [if_neg e2, List.getElem?_eq_none (by simp; omega)]; rfl
theorem getD_tail {α : Type} {l : List α} {d : α} {j : Nat} : l.tail.getD j d = l.getD (j + 1) d := by
  cases l with
  | nil => simp
  | cons a l => simp
def RU (g : ZS) (m n : Nat) (U : List ZU) : Prop := zgi g m 26 = nI U.length ∧ U.length ≤ 12 ∧ ∀ i, i < U.length → RS g (m + 15) (217 * i) n (U.getD i u0).2 (U.getD i u0).1
theorem s_remember {N : Nat} (hN : 10000 ≤ N) {g : ZS} {m a n d : Nat} {B : Nat → ZB} {U : List ZU} (hR : LR m (zh g)) (ha : zsh g a = some (20, 217)) (hU : RU g m n U) (hB : RN g a n d B) (hn : n ≤ 6) (d1 : a ≠ m + 15 ∧ a ≠ m) : zW (f_X12_remember N m a g) (fun g' => zJ (fun x j => x = m + 15 ∨ x = m ∧ j = 26) g g' ∧ RU g' m n (pU U (B, d))) := by
  obtain ⟨u1, u2, u3⟩ := hU
  have s0 := hR.s0
  have s15 := hR.s15
  have r25 := hR.r25
  have fin : ∀ (g' : ZS) (V : List ZU), V.length < 12 → zJ (fun x j => x = m + 15 ∨ x = m ∧ j = 26) g g' → RU g' m n V → zW (f_X12_remember_50 N m a g') (fun g' => zJ (fun x j => x = m + 15 ∨ x = m ∧ j = 26) g g' ∧ RU g' m n (V ++ [(B, d)])) := by
    intro g' V hV hJ hRU
    obtain ⟨v1, v2, v3⟩ := hRU
    unfold f_X12_remember_50
    simp (disch := omega) only [Option.bind_some, Option.map_some, Option.bind_none, Option.bind_fun_none, zrdI, zrdR, zwrI, zwrR, zwrZ, zvs, zald, zast, zlald, zlast, zaald, zlen, sh_sI, sh_sL, sh_sR, gr_sI, gr_sL, gi_sL, gi_sR, gl_sI, gl_sR, sz_sI, sz_sL, sz_sR, gi_sI, gl_sL, gr_sR, nar20, nar22_0, nar22_1, narb0, narb1, nI_clamp, zin_nI, nI_leI, nI_ltI, nI_eq, nI_add, nI_mul, nI_sub, nI_dec, nI_lt0, nI_0le, neg1_lt, neg1_le, neg1_ne, neg1_ne2, reduceIte, eq_self, ite_true, ite_false, true_and, and_true, or_true, true_or, and_self, Nat.reduceEqDiff, Nat.reduceAdd, Nat.reduceMul, Nat.reduceSub, Nat.add_zero, Nat.zero_add, bh_mk, bc_mk, bn_mk, bo_mk, bO_mk, bF_mk, bL_mk, bT_mk, if_pos, if_neg, ng_lt, ng_le, ng_lt2, ng_le2, ng_eq, ng_eq2, ng_nn, ng_dec, ng_dec0, sb_nle, sb_nlt, bI_0, bI_1, bI_t, bI_f, bI_nar, bitW_e, c_0, c_1, c_2, c_3, c_4, c_5, c_6, c_7, c_8, c_9, c_10, c_11, c_12, c_13, c_16, c_17, c_20, c_24, c_28, c_36, c_37, c_39, c_40, c_41, c_42, c_43, c_45, c_47, c_48, c_49, c_57, c_59, c_60, c_61, c_62, c_80, c_81, c_97, c_99, c_100, c_104, c_107, c_109, c_115, c_116, c_120, c_216, c_217, c_255, c_256, c_1000, c_2000, c_9999, c_1000000, hJ.sh, hJ.gr, s0, r25, v1]
    refine (s_lay hN (by rw [hJ.sh]; exact ha) (by rw [hJ.sh]; exact s15) (by omega) (by omega) d1.1).bind (fun g2 w2 => ?_)
    obtain ⟨J2, e2⟩ := w2
    have f1 : zgi g2 m 26 = nI V.length := by rw [J2.gi (by omega)]; exact v1
    have hB' : RN g' a n d B := hB.keep hn hJ (fun j hj => by omega)
    simp (disch := omega) only [Option.bind_some, Option.map_some, Option.bind_none, Option.bind_fun_none, zrdI, zrdR, zwrI, zwrR, zwrZ, zvs, zald, zast, zlald, zlast, zaald, zlen, sh_sI, sh_sL, sh_sR, gr_sI, gr_sL, gi_sL, gi_sR, gl_sI, gl_sR, sz_sI, sz_sL, sz_sR, gi_sI, gl_sL, gr_sR, nar20, nar22_0, nar22_1, narb0, narb1, nI_clamp, zin_nI, nI_leI, nI_ltI, nI_eq, nI_add, nI_mul, nI_sub, nI_dec, nI_lt0, nI_0le, neg1_lt, neg1_le, neg1_ne, neg1_ne2, reduceIte, eq_self, ite_true, ite_false, true_and, and_true, or_true, true_or, and_self, Nat.reduceEqDiff, Nat.reduceAdd, Nat.reduceMul, Nat.reduceSub, Nat.add_zero, Nat.zero_add, bh_mk, bc_mk, bn_mk, bo_mk, bO_mk, bF_mk, bL_mk, bT_mk, if_pos, if_neg, ng_lt, ng_le, ng_lt2, ng_le2, ng_eq, ng_eq2, ng_nn, ng_dec, ng_dec0, sb_nle, sb_nlt, bI_0, bI_1, bI_t, bI_f, bI_nar, bitW_e, c_0, c_1, c_2, c_3, c_4, c_5, c_6, c_7, c_8, c_9, c_10, c_11, c_12, c_13, c_16, c_17, c_20, c_24, c_28, c_36, c_37, c_39, c_40, c_41, c_42, c_43, c_45, c_47, c_48, c_49, c_57, c_59, c_60, c_61, c_62, c_80, c_81, c_97, c_99, c_100, c_104, c_107, c_109, c_115, c_116, c_120, c_216, c_217, c_255, c_256, c_1000, c_2000, c_9999, c_1000000, J2.sh, hJ.sh, s0, f1]
    rw [zW_some]
    have J3 : zJ (fun x j => x = m ∧ j = 26) g2 (zsetI g2 m 26 (nI (V.length + 1))) := zJ.setI ⟨rfl, rfl⟩
    refine ⟨(hJ.trans (J2.mono (fun x j z => Or.inl z.1))).trans (J3.mono (fun x j z => Or.inr z)), ?_, ?_, fun i hi => ?_⟩
    · rw [List.length_append, List.length_singleton, gi_sI, if_pos ⟨rfl, rfl⟩]
    · rw [List.length_append, List.length_singleton]; omega
    · rw [List.length_append, List.length_singleton] at hi
      rw [getD_ap]
      by_cases e : i < V.length
      · rw [if_pos e]
        exact (v3 i e).at hn (fun j hj => by rw [J3.gi (by omega), J2.gi (by omega)])
      · have : i = V.length := by omega
        subst this
        rw [if_neg e, if_pos rfl]
        exact hB'.to hn (fun j hj => by rw [J3.gi (by omega)]; exact e2 j hj)
  unfold f_X12_remember
  by_cases h12 : U.length = 12
  · rw [pU, if_pos h12]
    have hk : (nI 12 = nI 12) = True := eq_self _
    rw [p_rdI s0, Option.bind_some, u1, h12, c_12, if_pos rfl, c_0]
    refine zW_forI (fun i g' => zJ (fun x j => x = m + 15 ∨ x = m ∧ j = 26) g g' ∧ zgi g' m 26 = nI 12 ∧ (∀ j, j < i → zgi g' (m + 15) j = zgi g (m + 15) (j + 217)) ∧ ∀ j, i ≤ j → zgi g' (m + 15) j = zgi g (m + 15) j) 2387 (fun i g' hi hI => ?_) (fun g' hI => ?_) (by omega) (Nat.zero_le _) ⟨zJ.rfl, by rw [u1, h12], fun j hj => by omega, fun j _ => rfl⟩
    · obtain ⟨hJ, e1, e2, e3⟩ := hI
      have e4 := e3 (i + 217) (by omega)
      show zW (f_X12_remember_11 N m a (nI i) g') _
      unfold f_X12_remember_11
      have s15' : zsh g' (m + 15) = some (20, 2604) := by rw [hJ.sh]; exact s15
      have s0' : zsh g' m = some (12, 0) := by rw [hJ.sh]; exact s0
      have r25' : zgr g' m 25 = some (m + 15) := by rw [hJ.gr]; exact r25
      rw [show (2387 : Int32) = nI 2387 from rfl, if_neg (nI_ge hi (by omega)), p_rdR s0', r25', Option.bind_some, Option.bind_some, c_217, nI_add, a20_2604 s15' (by omega), Option.bind_some, w20_2604 s15' (by omega), Option.bind_some, zW_some, zI_inl, e4, c_1, nI_add]
      refine ⟨rfl, hJ.setI' (Or.inl rfl), by rw [gi_sI, if_neg (by omega)]; exact e1, fun j hj => ?_, fun j hj => ?_⟩
      · by_cases h : j = i
        · subst h; rw [gi_sI, if_pos ⟨rfl, rfl⟩]
        · rw [gi_sI, if_neg (by omega)]; exact e2 j (by omega)
      · rw [gi_sI, if_neg (by omega)]; exact e3 j (by omega)
    · obtain ⟨hJ, e1, e2, e3⟩ := hI
      show zW (f_X12_remember_11 N m a (nI 2387) g') _
      unfold f_X12_remember_11
      have s0' : zsh g' m = some (12, 0) := by rw [hJ.sh]; exact s0
      rw [show (2387 : Int32) = nI 2387 from rfl, if_pos (nI_le (Nat.le_refl _) (by omega)), p_rdI s0', Option.bind_some, e1, p_wrI s0', Option.bind_some, c_1, nI_sub (by omega), zW_map]
      have hl : U.tail.length = 11 := by rw [List.length_tail, h12]
      have J3 : zJ (fun x j => x = m ∧ j = 26) g' (zsetI g' m 26 (nI 11)) := zJ.setI ⟨rfl, rfl⟩
      refine (fin (zsetI g' m 26 (nI 11)) U.tail (by omega) (hJ.trans (J3.mono (fun x j z => Or.inr z))) ⟨by rw [gi_sI, if_pos ⟨rfl, rfl⟩, hl], by omega, fun i hi => ?_⟩).mono (fun r hr => hr)
      rw [getD_tail]
      exact (u3 (i + 1) (by omega)).at hn (fun j hj => by rw [J3.gi (by omega), e2 _ (by omega)]; congr 1; omega)
  · rw [pU, if_neg h12]
    have h12' : ¬ nI U.length = nI 12 := by rw [nI_eq (by omega) (by omega)]; exact h12
    rw [p_rdI s0, Option.bind_some, u1, c_12, if_neg h12']
    exact fin g U (by omega) zJ.rfl ⟨u1, u2, u3⟩
/-! the row -/
def RW (g : ZS) (m : Nat) (l : List Int64) : Prop := zgi g m 9 = nI l.length ∧ l.length ≤ 8 ∧ ∀ j, j < l.length → zgl g (m + 7) j = l.getD j 0
abbrev SW (m : Nat) : Nat → Nat → Prop := fun x j => x = m ∧ j = 9 ∨ x = m + 7
theorem s_tell {g : ZS} {m : Nat} {l : List Int64} {v : Int64} (hR : LR m (zh g)) (h : RW g m l) (hn : l.length < 8) : zW (f_X12_tell m v g) (fun g' => zJ (SW m) g g' ∧ RW g' m (l ++ [v])) := by
  have s0 := hR.s0
  have s7 := hR.s7
  have r8 := hR.r8
  obtain ⟨k1, k2, k3⟩ := h
  unfold f_X12_tell
  simp (disch := omega) only [Option.bind_some, Option.map_some, Option.bind_none, Option.bind_fun_none, zrdI, zrdR, zwrI, zwrR, zwrZ, zvs, zald, zast, zlald, zlast, zaald, zlen, sh_sI, sh_sL, sh_sR, gr_sI, gr_sL, gi_sL, gi_sR, gl_sI, gl_sR, sz_sI, sz_sL, sz_sR, gi_sI, gl_sL, gr_sR, nar20, nar22_0, nar22_1, narb0, narb1, nI_clamp, zin_nI, nI_leI, nI_ltI, nI_eq, nI_add, nI_mul, nI_sub, nI_dec, nI_lt0, nI_0le, neg1_lt, neg1_le, neg1_ne, neg1_ne2, reduceIte, eq_self, ite_true, ite_false, true_and, and_true, or_true, true_or, and_self, Nat.reduceEqDiff, Nat.reduceAdd, Nat.reduceMul, Nat.reduceSub, Nat.add_zero, Nat.zero_add, bh_mk, bc_mk, bn_mk, bo_mk, bO_mk, bF_mk, bL_mk, bT_mk, if_pos, if_neg, ng_lt, ng_le, ng_lt2, ng_le2, ng_eq, ng_eq2, ng_nn, ng_dec, ng_dec0, sb_nle, sb_nlt, bI_0, bI_1, bI_t, bI_f, bI_nar, bitW_e, c_0, c_1, c_2, c_3, c_4, c_5, c_6, c_7, c_8, c_9, c_10, c_11, c_12, c_13, c_16, c_17, c_20, c_24, c_28, c_36, c_37, c_39, c_40, c_41, c_42, c_43, c_45, c_47, c_48, c_49, c_57, c_59, c_60, c_61, c_62, c_80, c_81, c_97, c_99, c_100, c_104, c_107, c_109, c_115, c_116, c_120, c_216, c_217, c_255, c_256, c_1000, c_2000, c_9999, c_1000000, s0, s7, r8, k1]
  rw [zW_some]
  refine ⟨(zJ.rfl.setL' (Or.inr rfl)).setI' (Or.inl ⟨rfl, rfl⟩), ?_, ?_, fun j hj => ?_⟩
  · rw [List.length_append, List.length_singleton, gi_sI, if_pos ⟨rfl, rfl⟩]
  · rw [List.length_append, List.length_singleton]; omega
  · rw [List.length_append, List.length_singleton] at hj
    rw [getD_ap]
    by_cases e : j < l.length
    · simp (disch := omega) only [Option.bind_some, Option.map_some, Option.bind_none, Option.bind_fun_none, zrdI, zrdR, zwrI, zwrR, zwrZ, zvs, zald, zast, zlald, zlast, zaald, zlen, sh_sI, sh_sL, sh_sR, gr_sI, gr_sL, gi_sL, gi_sR, gl_sI, gl_sR, sz_sI, sz_sL, sz_sR, gi_sI, gl_sL, gr_sR, nar20, nar22_0, nar22_1, narb0, narb1, nI_clamp, zin_nI, nI_leI, nI_ltI, nI_eq, nI_add, nI_mul, nI_sub, nI_dec, nI_lt0, nI_0le, neg1_lt, neg1_le, neg1_ne, neg1_ne2, reduceIte, eq_self, ite_true, ite_false, true_and, and_true, or_true, true_or, and_self, Nat.reduceEqDiff, Nat.reduceAdd, Nat.reduceMul, Nat.reduceSub, Nat.add_zero, Nat.zero_add, bh_mk, bc_mk, bn_mk, bo_mk, bO_mk, bF_mk, bL_mk, bT_mk, if_pos, if_neg, ng_lt, ng_le, ng_lt2, ng_le2, ng_eq, ng_eq2, ng_nn, ng_dec, ng_dec0, sb_nle, sb_nlt, bI_0, bI_1, bI_t, bI_f, bI_nar, bitW_e, c_0, c_1, c_2, c_3, c_4, c_5, c_6, c_7, c_8, c_9, c_10, c_11, c_12, c_13, c_16, c_17, c_20, c_24, c_28, c_36, c_37, c_39, c_40, c_41, c_42, c_43, c_45, c_47, c_48, c_49, c_57, c_59, c_60, c_61, c_62, c_80, c_81, c_97, c_99, c_100, c_104, c_107, c_109, c_115, c_116, c_120, c_216, c_217, c_255, c_256, c_1000, c_2000, c_9999, c_1000000, k3 j e]
    · have : j = l.length := by omega
      subst this
      simp (disch := omega) only [Option.bind_some, Option.map_some, Option.bind_none, Option.bind_fun_none, zrdI, zrdR, zwrI, zwrR, zwrZ, zvs, zald, zast, zlald, zlast, zaald, zlen, sh_sI, sh_sL, sh_sR, gr_sI, gr_sL, gi_sL, gi_sR, gl_sI, gl_sR, sz_sI, sz_sL, sz_sR, gi_sI, gl_sL, gr_sR, nar20, nar22_0, nar22_1, narb0, narb1, nI_clamp, zin_nI, nI_leI, nI_ltI, nI_eq, nI_add, nI_mul, nI_sub, nI_dec, nI_lt0, nI_0le, neg1_lt, neg1_le, neg1_ne, neg1_ne2, reduceIte, eq_self, ite_true, ite_false, true_and, and_true, or_true, true_or, and_self, Nat.reduceEqDiff, Nat.reduceAdd, Nat.reduceMul, Nat.reduceSub, Nat.add_zero, Nat.zero_add, bh_mk, bc_mk, bn_mk, bo_mk, bO_mk, bF_mk, bL_mk, bT_mk, if_pos, if_neg, ng_lt, ng_le, ng_lt2, ng_le2, ng_eq, ng_eq2, ng_nn, ng_dec, ng_dec0, sb_nle, sb_nlt, bI_0, bI_1, bI_t, bI_f, bI_nar, bitW_e, c_0, c_1, c_2, c_3, c_4, c_5, c_6, c_7, c_8, c_9, c_10, c_11, c_12, c_13, c_16, c_17, c_20, c_24, c_28, c_36, c_37, c_39, c_40, c_41, c_42, c_43, c_45, c_47, c_48, c_49, c_57, c_59, c_60, c_61, c_62, c_80, c_81, c_97, c_99, c_100, c_104, c_107, c_109, c_115, c_116, c_120, c_216, c_217, c_255, c_256, c_1000, c_2000, c_9999, c_1000000]
theorem RW.zero {g : ZS} {m : Nat} : RW (zsetI g m 9 (nI 0)) m [] := ⟨by rw [gi_sI, if_pos ⟨rfl, rfl⟩]; rfl, by simp, fun j hj => absurd hj (by simp)⟩
def wL (w : Nat) : Int64 := (nI w).toInt64
theorem take_succ' {l : List Nat} {k : Nat} (h : k < l.length) : l.take (k + 1) = l.take k ++ [l.getD k 0] := by
  rw [List.take_succ, List.getD_eq_getElem?_getD, List.getElem?_eq_getElem h]; rfl
theorem s_tellList {N : Nat} (hN : 10000 ≤ N) {g : ZS} {m a : Nat} {l : List Nat} (hR : LR m (zh g)) (ha : zsh g a = some (20, 8)) (hl : l.length ≤ 8) (h : ∀ j, j < l.length → zgi g a j = nI (l.getD j 0)) (d1 : a ≠ m ∧ a ≠ m + 7) : zW (f_X12_tellList N m a (nI l.length) g) (fun g' => zJ (SW m) g g' ∧ RW g' m (l.map wL)) := by
  have s0 := hR.s0
  unfold f_X12_tellList
  rw [c_0, p_wrI s0, Option.bind_some]
  have J0 : zJ (SW m) g (zsetI g m 9 (nI 0)) := zJ.setI (Or.inl ⟨rfl, rfl⟩)
  refine zW_forI (fun i g' => zJ (SW m) g g' ∧ RW g' m ((l.take i).map wL)) l.length (fun i g' hi hI => ?_) (fun g' hI => ?_) (by omega) (Nat.zero_le _) ⟨J0, RW.zero⟩
  · obtain ⟨hJ, e⟩ := hI
    have e1 : zgi g' a i = nI (l.getD i 0) := by rw [hJ.gi (by omega)]; exact h i hi
    simp (disch := omega) only [Option.bind_some, Option.map_some, Option.bind_none, Option.bind_fun_none, zrdI, zrdR, zwrI, zwrR, zwrZ, zvs, zald, zast, zlald, zlast, zaald, zlen, sh_sI, sh_sL, sh_sR, gr_sI, gr_sL, gi_sL, gi_sR, gl_sI, gl_sR, sz_sI, sz_sL, sz_sR, gi_sI, gl_sL, gr_sR, nar20, nar22_0, nar22_1, narb0, narb1, nI_clamp, zin_nI, nI_leI, nI_ltI, nI_eq, nI_add, nI_mul, nI_sub, nI_dec, nI_lt0, nI_0le, neg1_lt, neg1_le, neg1_ne, neg1_ne2, reduceIte, eq_self, ite_true, ite_false, true_and, and_true, or_true, true_or, and_self, Nat.reduceEqDiff, Nat.reduceAdd, Nat.reduceMul, Nat.reduceSub, Nat.add_zero, Nat.zero_add, bh_mk, bc_mk, bn_mk, bo_mk, bO_mk, bF_mk, bL_mk, bT_mk, if_pos, if_neg, ng_lt, ng_le, ng_lt2, ng_le2, ng_eq, ng_eq2, ng_nn, ng_dec, ng_dec0, sb_nle, sb_nlt, bI_0, bI_1, bI_t, bI_f, bI_nar, bitW_e, c_0, c_1, c_2, c_3, c_4, c_5, c_6, c_7, c_8, c_9, c_10, c_11, c_12, c_13, c_16, c_17, c_20, c_24, c_28, c_36, c_37, c_39, c_40, c_41, c_42, c_43, c_45, c_47, c_48, c_49, c_57, c_59, c_60, c_61, c_62, c_80, c_81, c_97, c_99, c_100, c_104, c_107, c_109, c_115, c_116, c_120, c_216, c_217, c_255, c_256, c_1000, c_2000, c_9999, c_1000000, f_X12_tellList_7, hJ.sh, ha, s0, e1]
    refine (s_tell (hR.J hJ) e (by rw [List.length_map, List.length_take]; omega)).bind (fun g2 h2 => ?_)
    rw [zW_some, zI_inl]
    refine ⟨rfl, hJ.trans h2.1, ?_⟩
    rw [take_succ' hi, List.map_append]
    exact h2.2
  · obtain ⟨hJ, e⟩ := hI
    rw [List.take_length] at e
    simp (disch := omega) only [Option.bind_some, Option.map_some, Option.bind_none, Option.bind_fun_none, zrdI, zrdR, zwrI, zwrR, zwrZ, zvs, zald, zast, zlald, zlast, zaald, zlen, sh_sI, sh_sL, sh_sR, gr_sI, gr_sL, gi_sL, gi_sR, gl_sI, gl_sR, sz_sI, sz_sL, sz_sR, gi_sI, gl_sL, gr_sR, nar20, nar22_0, nar22_1, narb0, narb1, nI_clamp, zin_nI, nI_leI, nI_ltI, nI_eq, nI_add, nI_mul, nI_sub, nI_dec, nI_lt0, nI_0le, neg1_lt, neg1_le, neg1_ne, neg1_ne2, reduceIte, eq_self, ite_true, ite_false, true_and, and_true, or_true, true_or, and_self, Nat.reduceEqDiff, Nat.reduceAdd, Nat.reduceMul, Nat.reduceSub, Nat.add_zero, Nat.zero_add, bh_mk, bc_mk, bn_mk, bo_mk, bO_mk, bF_mk, bL_mk, bT_mk, if_pos, if_neg, ng_lt, ng_le, ng_lt2, ng_le2, ng_eq, ng_eq2, ng_nn, ng_dec, ng_dec0, sb_nle, sb_nlt, bI_0, bI_1, bI_t, bI_f, bI_nar, bitW_e, c_0, c_1, c_2, c_3, c_4, c_5, c_6, c_7, c_8, c_9, c_10, c_11, c_12, c_13, c_16, c_17, c_20, c_24, c_28, c_36, c_37, c_39, c_40, c_41, c_42, c_43, c_45, c_47, c_48, c_49, c_57, c_59, c_60, c_61, c_62, c_80, c_81, c_97, c_99, c_100, c_104, c_107, c_109, c_115, c_116, c_120, c_216, c_217, c_255, c_256, c_1000, c_2000, c_9999, c_1000000, f_X12_tellList_7]
    rw [zW_some, zI_inr]
    exact ⟨hJ, e⟩
