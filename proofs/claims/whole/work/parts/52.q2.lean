/-! ===== bits; soonest, unsaid ===== -/
section RNG
variable {α : Type} {v : Int32} {lo hi : Nat} {a b : α}
theorem rngA (hl : lo < 2 ^ 31) (hh : hi + 1 < 2 ^ 31) : (if v < nI lo then a else if nI hi < v then a else b) = if rb v lo (hi + 1) = true then b else a := by
  by_cases h1 : v < nI lo
  · rw [if_pos h1, rb_lo h1 hl]; rfl
  · rw [if_neg h1]
    by_cases h2 : nI hi < v
    · rw [if_pos h2, rb_hi ((lt_s1 hh).mp h2) hh]; rfl
    · rw [if_neg h2, rb_ok h1 (fun h => h2 ((lt_s1 hh).mpr h)) hl hh, if_pos rfl]
theorem rngB (hl : lo < 2 ^ 31) (hh : hi + 1 < 2 ^ 31) : (if v < nI lo then a else if v ≤ nI hi then b else a) = if rb v lo (hi + 1) = true then b else a := by
  rw [← rngA hl hh]
  by_cases h1 : v < nI lo
  · rw [if_pos h1, if_pos h1]
  · rw [if_neg h1, if_neg h1]
    by_cases h2 : nI hi < v
    · rw [if_neg (Int32.not_le.mpr h2), if_pos h2]
    · rw [if_pos (Int32.not_lt.mp h2), if_neg h2]
end RNG
theorem sh31 : ∀ p, p < 31 → ((nI p &&& 31).toBitVec.smod 32).toNat = p := by decide +kernel
theorem bit_e {k p : Nat} (hk : k < 2 ^ 31) (hp : p < 31) : (nI k >>> (nI p &&& 31)) &&& (1 : Int32) = nI (k / 2 ^ p % 2) := by
  rw [pk_shrN hk _ p (sh31 p hp)]
  have h2 : k / 2 ^ p < 2 ^ 32 := Nat.lt_of_le_of_lt (Nat.div_le_self _ _) (by omega)
  exact pk_andN h2 1 (by decide)
theorem bit01 {k p : Nat} : k / 2 ^ p % 2 = 0 ∨ k / 2 ^ p % 2 = 1 := by omega
theorem shl_e : ∀ p, p < 31 → (1 : Int32) <<< (nI p &&& 31) = nI (2 ^ p) := by decide +kernel
theorem bitW_n {w : Nat} (h : w < 31) : bitW w = nI (2 ^ w) := shl_e w h
theorem or_z {v : Int32} : v ||| nI 0 = v := Int32.or_zero
def bitsN (l : List Nat) (n : Nat) : Int32 := zfold (fun i acc => acc ||| bitW (l.getD i 0)) n (nI 0)
section WS
variable {β : Type} {Q : β → Prop} {g : ZS} {a ci j b x c : Nat} {A : ZA} {v : Int32}
theorem w_rdR {k : Nat → Option β} (hs : zsh g a = some (ci, 0)) (hr : zgr g a j = some b) (h : zW (k b) Q) : zW ((zrdR g a ci j).bind k) Q := by
  rw [p_rdR hs, hr, Option.bind_some]; exact h
theorem w_rdI {k : Int32 → Option β} (hs : zsh g a = some (ci, 0)) (hr : zgi g a j = v) (h : zW (k v) Q) : zW ((zrdI g a ci j).bind k) Q := by
  rw [p_rdI hs, hr, Option.bind_some]; exact h
theorem w_vs {t : Option β} (hs : zsh g a = some (ci, 0)) (h : zW t Q) : zW (zvs g a ci t) Q := by
  rw [p_vs hs]; exact h
theorem w_eq {α : Type} {t : Option α} {r : α} {k : α → Option β} (he : t = some r) (h : zW (k r) Q) : zW (t.bind k) Q := by
  rw [he, Option.bind_some]; exact h
theorem c_size {k : Int32 → Option β} (hC : CJ x g A) (h : zW (k (nI (an A))) Q) : zW ((zrdR g x 11 6).bind fun v1 => (zrdI g v1 6 1).bind k) Q := w_rdR hC.1.s0 hC.1.r0_6 (w_rdI hC.1.SL23.f.1 hC.2.2.2.2.2.1.1.1 h)
end WS
section K2
variable {N : Nat}
theorem e_bits {g : ZS} {T k : Nat} {l : List Nat} (hN : 10000 ≤ N) (hT : TL (zh g) T) (h : TS g T l) (hk : k ≤ 8) : f_X10_bits N T (nI k) g = some (bitsN l (min k l.length)) := by
  obtain ⟨t1, t2, t3, t4, t5, t6, t7, t8⟩ := hT.f
  obtain ⟨k1, k2, k3⟩ := h
  unfold f_X10_bits
  rw [c_0]
  refine loopA (fun i acc => acc ||| bitW (l.getD i 0)) (min k l.length) id (fun _ _ => True) trivial (fun i y hi _ => ⟨?_, trivial⟩) (fun y _ => ?_) (by omega)
  · obtain ⟨e1, e2⟩ := k3 i (by omega)
    simp (disch := omega) only [Option.bind_some, Option.map_some, Option.bind_none, Option.bind_fun_none, zrdI, zrdR, zwrI, zwrR, zwrZ, zvs, zald, zast, zlald, zlast, zaald, zlen, sh_sI, sh_sL, sh_sR, gr_sI, gr_sL, gi_sL, gi_sR, gl_sI, gl_sR, sz_sI, sz_sL, sz_sR, gi_sI, gl_sL, gr_sR, nar20, nar22_0, nar22_1, narb0, narb1, nI_clamp, zin_nI, nI_leI, nI_ltI, nI_eq, nI_add, nI_mul, nI_sub, nI_dec, nI_lt0, nI_0le, neg1_lt, neg1_le, neg1_ne, neg1_ne2, reduceIte, eq_self, ite_true, ite_false, true_and, and_true, or_true, true_or, and_self, Nat.reduceEqDiff, Nat.reduceAdd, Nat.reduceMul, Nat.reduceSub, Nat.add_zero, Nat.zero_add, bh_mk, bc_mk, bn_mk, bo_mk, bO_mk, bF_mk, bL_mk, bT_mk, if_pos, if_neg, ng_lt, ng_le, ng_lt2, ng_le2, ng_eq, ng_eq2, ng_nn, ng_dec, ng_dec0, sb_nle, sb_nlt, bI_0, bI_1, bI_t, bI_f, bI_nar, bitW_e, and_false, false_and, Nat.add_sub_cancel, if_false, if_true, c_0, c_1, c_2, c_3, c_4, c_5, c_6, c_7, c_8, c_9, c_10, c_11, c_12, c_13, c_16, c_17, c_20, c_24, c_28, c_36, c_37, c_39, c_40, c_41, c_42, c_43, c_45, c_47, c_48, c_49, c_57, c_59, c_60, c_61, c_62, c_80, c_81, c_97, c_99, c_100, c_104, c_107, c_109, c_115, c_116, c_120, c_216, c_217, c_255, c_256, c_1000, c_2000, c_9999, c_1000000, f_X10_bits_4, t1, t2, t5, k1, e1]
  · by_cases e : k ≤ l.length
    · rw [Nat.min_eq_left e]
      simp (disch := omega) only [Option.bind_some, Option.map_some, Option.bind_none, Option.bind_fun_none, zrdI, zrdR, zwrI, zwrR, zwrZ, zvs, zald, zast, zlald, zlast, zaald, zlen, sh_sI, sh_sL, sh_sR, gr_sI, gr_sL, gi_sL, gi_sR, gl_sI, gl_sR, sz_sI, sz_sL, sz_sR, gi_sI, gl_sL, gr_sR, nar20, nar22_0, nar22_1, narb0, narb1, nI_clamp, zin_nI, nI_leI, nI_ltI, nI_eq, nI_add, nI_mul, nI_sub, nI_dec, nI_lt0, nI_0le, neg1_lt, neg1_le, neg1_ne, neg1_ne2, reduceIte, eq_self, ite_true, ite_false, true_and, and_true, or_true, true_or, and_self, Nat.reduceEqDiff, Nat.reduceAdd, Nat.reduceMul, Nat.reduceSub, Nat.add_zero, Nat.zero_add, bh_mk, bc_mk, bn_mk, bo_mk, bO_mk, bF_mk, bL_mk, bT_mk, if_pos, if_neg, ng_lt, ng_le, ng_lt2, ng_le2, ng_eq, ng_eq2, ng_nn, ng_dec, ng_dec0, sb_nle, sb_nlt, bI_0, bI_1, bI_t, bI_f, bI_nar, bitW_e, and_false, false_and, Nat.add_sub_cancel, if_false, if_true, c_0, c_1, c_2, c_3, c_4, c_5, c_6, c_7, c_8, c_9, c_10, c_11, c_12, c_13, c_16, c_17, c_20, c_24, c_28, c_36, c_37, c_39, c_40, c_41, c_42, c_43, c_45, c_47, c_48, c_49, c_57, c_59, c_60, c_61, c_62, c_80, c_81, c_97, c_99, c_100, c_104, c_107, c_109, c_115, c_116, c_120, c_216, c_217, c_255, c_256, c_1000, c_2000, c_9999, c_1000000, f_X10_bits_4, f_X10_bits_34]
      rfl
    · rw [Nat.min_eq_right (by omega)]
      simp (disch := omega) only [Option.bind_some, Option.map_some, Option.bind_none, Option.bind_fun_none, zrdI, zrdR, zwrI, zwrR, zwrZ, zvs, zald, zast, zlald, zlast, zaald, zlen, sh_sI, sh_sL, sh_sR, gr_sI, gr_sL, gi_sL, gi_sR, gl_sI, gl_sR, sz_sI, sz_sL, sz_sR, gi_sI, gl_sL, gr_sR, nar20, nar22_0, nar22_1, narb0, narb1, nI_clamp, zin_nI, nI_leI, nI_ltI, nI_eq, nI_add, nI_mul, nI_sub, nI_dec, nI_lt0, nI_0le, neg1_lt, neg1_le, neg1_ne, neg1_ne2, reduceIte, eq_self, ite_true, ite_false, true_and, and_true, or_true, true_or, and_self, Nat.reduceEqDiff, Nat.reduceAdd, Nat.reduceMul, Nat.reduceSub, Nat.add_zero, Nat.zero_add, bh_mk, bc_mk, bn_mk, bo_mk, bO_mk, bF_mk, bL_mk, bT_mk, if_pos, if_neg, ng_lt, ng_le, ng_lt2, ng_le2, ng_eq, ng_eq2, ng_nn, ng_dec, ng_dec0, sb_nle, sb_nlt, bI_0, bI_1, bI_t, bI_f, bI_nar, bitW_e, and_false, false_and, Nat.add_sub_cancel, if_false, if_true, c_0, c_1, c_2, c_3, c_4, c_5, c_6, c_7, c_8, c_9, c_10, c_11, c_12, c_13, c_16, c_17, c_20, c_24, c_28, c_36, c_37, c_39, c_40, c_41, c_42, c_43, c_45, c_47, c_48, c_49, c_57, c_59, c_60, c_61, c_62, c_80, c_81, c_97, c_99, c_100, c_104, c_107, c_109, c_115, c_116, c_120, c_216, c_217, c_255, c_256, c_1000, c_2000, c_9999, c_1000000, f_X10_bits_4, f_X10_bits_34, t1, k1]
      rfl
theorem r_saidBits {m c p k : Nat} {g : ZS} {A : ZA} (hN : 10000 ≤ N) (hR : RJ m g A) (hA : AI A c) (hp : p < an A) (hk : k ≤ 8) : zW (f_X12_saidBits N m (nI p) (nI k) g) (fun o => o.1 = bitsN (sayA A (aB A p) (ame A p)) (min k (sayA A (aB A p) (ame A p)).length) ∧ zM m (SY m (m + 12)) g o.2 ∧ RJ m o.2 A) := by
  have hl8 : (sayA A (aB A p) (ame A p)).length ≤ 8 := says_len
  unfold f_X12_saidBits
  rw [p_rdR hR.1.s0, hR.1.r0, Option.bind_some, p_rdR hR.1.s0, hR.1.r22, Option.bind_some]
  refine r_say hN hR hA (Or.inl rfl) hp (fun g2 J2 T2 R2 => ?_)
  have hlt := fun j hj => sayA_lt (A := A) (b := aB A p) (me := ame A p) (j := j) hj
  generalize sayA A (aB A p) (ame A p) = l at *
  dsimp only
  rw [mn, Option.bind_some]
  have hmin : (if nI l.length < nI k then nI l.length else nI k) = nI (min k l.length) := by
    by_cases e : l.length < k
    · rw [if_pos (nI_lt e (by omega)), Nat.min_eq_right (by omega)]
    · rw [if_neg (nI_nlt (by omega) (by omega)), Nat.min_eq_left (by omega)]
  rw [hmin, c_0]
  have s0 := R2.1.s0
  have r22 := R2.1.r22
  have s12 := R2.1.s12
  have hloop : zloop (fun s => f_X12_saidBits_24 N m (nI (min k l.length)) s.1 s.2 g2) N (nI 0, nI 0) = some ((bitsN l (min k l.length), g2)) := loopA (fun i acc => acc ||| bitW (l.getD i 0)) (min k l.length) (fun y => (y, g2)) (fun _ _ => True) trivial (fun i y hi _ => ⟨?_, trivial⟩) (fun y _ => ?_) (by omega)
  · exact zW.eq hloop ⟨rfl, J2, R2⟩
  · have e1 := T2 i (by omega)
    have e2 := (hlt i (by omega)).1
    simp (disch := omega) only [Option.bind_some, Option.map_some, Option.bind_none, Option.bind_fun_none, zrdI, zrdR, zwrI, zwrR, zwrZ, zvs, zald, zast, zlald, zlast, zaald, zlen, sh_sI, sh_sL, sh_sR, gr_sI, gr_sL, gi_sL, gi_sR, gl_sI, gl_sR, sz_sI, sz_sL, sz_sR, gi_sI, gl_sL, gr_sR, nar20, nar22_0, nar22_1, narb0, narb1, nI_clamp, zin_nI, nI_leI, nI_ltI, nI_eq, nI_add, nI_mul, nI_sub, nI_dec, nI_lt0, nI_0le, neg1_lt, neg1_le, neg1_ne, neg1_ne2, reduceIte, eq_self, ite_true, ite_false, true_and, and_true, or_true, true_or, and_self, Nat.reduceEqDiff, Nat.reduceAdd, Nat.reduceMul, Nat.reduceSub, Nat.add_zero, Nat.zero_add, bh_mk, bc_mk, bn_mk, bo_mk, bO_mk, bF_mk, bL_mk, bT_mk, if_pos, if_neg, ng_lt, ng_le, ng_lt2, ng_le2, ng_eq, ng_eq2, ng_nn, ng_dec, ng_dec0, sb_nle, sb_nlt, bI_0, bI_1, bI_t, bI_f, bI_nar, bitW_e, and_false, false_and, Nat.add_sub_cancel, if_false, if_true, c_0, c_1, c_2, c_3, c_4, c_5, c_6, c_7, c_8, c_9, c_10, c_11, c_12, c_13, c_16, c_17, c_20, c_24, c_28, c_36, c_37, c_39, c_40, c_41, c_42, c_43, c_45, c_47, c_48, c_49, c_57, c_59, c_60, c_61, c_62, c_80, c_81, c_97, c_99, c_100, c_104, c_107, c_109, c_115, c_116, c_120, c_216, c_217, c_255, c_256, c_1000, c_2000, c_9999, c_1000000, f_X12_saidBits_24, s0, r22, s12, e1]
  · simp (disch := omega) only [Option.bind_some, Option.map_some, Option.bind_none, Option.bind_fun_none, zrdI, zrdR, zwrI, zwrR, zwrZ, zvs, zald, zast, zlald, zlast, zaald, zlen, sh_sI, sh_sL, sh_sR, gr_sI, gr_sL, gi_sL, gi_sR, gl_sI, gl_sR, sz_sI, sz_sL, sz_sR, gi_sI, gl_sL, gr_sR, nar20, nar22_0, nar22_1, narb0, narb1, nI_clamp, zin_nI, nI_leI, nI_ltI, nI_eq, nI_add, nI_mul, nI_sub, nI_dec, nI_lt0, nI_0le, neg1_lt, neg1_le, neg1_ne, neg1_ne2, reduceIte, eq_self, ite_true, ite_false, true_and, and_true, or_true, true_or, and_self, Nat.reduceEqDiff, Nat.reduceAdd, Nat.reduceMul, Nat.reduceSub, Nat.add_zero, Nat.zero_add, bh_mk, bc_mk, bn_mk, bo_mk, bO_mk, bF_mk, bL_mk, bT_mk, if_pos, if_neg, ng_lt, ng_le, ng_lt2, ng_le2, ng_eq, ng_eq2, ng_nn, ng_dec, ng_dec0, sb_nle, sb_nlt, bI_0, bI_1, bI_t, bI_f, bI_nar, bitW_e, and_false, false_and, Nat.add_sub_cancel, if_false, if_true, c_0, c_1, c_2, c_3, c_4, c_5, c_6, c_7, c_8, c_9, c_10, c_11, c_12, c_13, c_16, c_17, c_20, c_24, c_28, c_36, c_37, c_39, c_40, c_41, c_42, c_43, c_45, c_47, c_48, c_49, c_57, c_59, c_60, c_61, c_62, c_80, c_81, c_97, c_99, c_100, c_104, c_107, c_109, c_115, c_116, c_120, c_216, c_217, c_255, c_256, c_1000, c_2000, c_9999, c_1000000, f_X12_saidBits_24]
abbrev SGa (x : Nat) : Nat → Nat → Prop := fun a j => ((a = x + 480 ∧ j = 3 ∨ a = x + 480 + 1 ∨ a = x + 480 + 2) ∨ a = x + 15 ∨ a = x + 20) ∨ a = x + 515
theorem c_gather {x c k : Nat} {g : ZS} {A : ZA} (hN : 10000 ≤ N) (hC : CJ x g A) (hA : AI A c) (hk : k ≤ 8) : zW (f_X11_gatherSets N x (nI k) g) (fun g' => zJ (SGa x) g g' ∧ CJ x g' A ∧ ∀ p, p < an A → zgi g' (x + 515) p = bitsN (sayA A (aB A p) (ame A p)) (min k (sayA A (aB A p) (ame A p)).length)) := by
  have n6 := hA.1.1
  unfold f_X11_gatherSets
  rw [c_0]
  refine zW_forI (fun i g' => zJ (SGa x) g g' ∧ CJ x g' A ∧ ∀ p, p < i → zgi g' (x + 515) p = bitsN (sayA A (aB A p) (ame A p)) (min k (sayA A (aB A p) (ame A p)).length)) (an A) (fun i g' hi hI => ?_) (fun g' hI => ?_) (by omega) (Nat.zero_le _) ⟨zJ.rfl, hC, fun p hp => by omega⟩
  · obtain ⟨J, C1, e⟩ := hI
    show zW (f_X11_gatherSets_2 N x (nI k) (nI i) g') _
    unfold f_X11_gatherSets_2
    refine c_size C1 ?_
    rw [if_neg (nI_ge hi (by omega))]
    refine c_say hN C1 hA hi (Or.inl ⟨rfl, rfl⟩) (fun g2 J2 T2 C2 => ?_)
    rw [p_rdR C2.1.s0, C2.1.r0_16, Option.bind_some, p_rdR C2.1.s0, C2.1.r0_12, Option.bind_some, p_vs C2.1.TL480.f.1, e_bits hN C2.1.TL480 T2 hk, Option.bind_some, w20_6 C2.1.s515 (by omega), Option.bind_some, zW_some, zI_inl, c_1, nI_add]
    have J3 : zJ (fun a j => a = x + 515) g2 (zsetI g2 (x + 515) i (bitsN (sayA A (aB A i) (ame A i)) (min k (sayA A (aB A i) (ame A i)).length))) := zJ.setI rfl
    refine ⟨rfl, (J.trans (J2.mono (fun a j z => Or.inl z))).trans (J3.mono (fun a j z => Or.inr z)), C2.keep hA J3 (fun a j z => by omega), fun p hp => ?_⟩
    rw [gi_sI]
    by_cases h : p = i
    · subst h; rw [if_pos ⟨rfl, rfl⟩]
    · rw [if_neg (by omega), J2.gi (by omega)]; exact e p (by omega)
  · obtain ⟨J, C1, e⟩ := hI
    show zW (f_X11_gatherSets_2 N x (nI k) (nI (an A)) g') _
    unfold f_X11_gatherSets_2
    rw [p_rdR C1.1.s0, C1.1.r0_6, Option.bind_some, p_rdI C1.1.SL23.f.1, Option.bind_some, C1.2.2.2.2.2.1.1.1, if_pos (nI_le (Nat.le_refl _) (by omega)), Option.map_some, zW_some, zI_inr]
    exact ⟨J, C1, e⟩
def knA (A : ZA) (k : Nat) : Int32 := zfold (fun p acc => acc ||| knB (bO (aB A p)) 8) k (nI 0)
theorem e_known6 {x c : Nat} {g : ZS} {A : ZA} (hN : 10000 ≤ N) (hC : CJ x g A) (hA : AI A c) : f_X6_known N (x + 23) g = some (knA A (an A)) := by
  have n6 := hA.1.1
  have h1 := hC.1.SL23.f.1
  have h2 := hC.1.SL23.f.2.1
  have h3 := hC.1.SL23.f.2.2.1
  have h4 := hC.2.2.2.2.2.1.1.1
  unfold f_X6_known
  rw [c_0]
  refine loopA (fun p acc => acc ||| knB (bO (aB A p)) 8) (an A) id (fun _ _ => True) trivial (fun i y hi _ => ⟨?_, trivial⟩) (fun y _ => ?_) (by omega)
  · obtain ⟨b1, b2, b3, b4, -⟩ := c_bird hC hA hi
    have b5 := b2.f.1
    simp (disch := omega) only [Option.bind_some, Option.map_some, Option.bind_none, Option.bind_fun_none, zrdI, zrdR, zwrI, zwrR, zwrZ, zvs, zald, zast, zlald, zlast, zaald, zlen, sh_sI, sh_sL, sh_sR, gr_sI, gr_sL, gi_sL, gi_sR, gl_sI, gl_sR, sz_sI, sz_sL, sz_sR, gi_sI, gl_sL, gr_sR, nar20, nar22_0, nar22_1, narb0, narb1, nI_clamp, zin_nI, nI_leI, nI_ltI, nI_eq, nI_add, nI_mul, nI_sub, nI_dec, nI_lt0, nI_0le, neg1_lt, neg1_le, neg1_ne, neg1_ne2, reduceIte, eq_self, ite_true, ite_false, true_and, and_true, or_true, true_or, and_self, Nat.reduceEqDiff, Nat.reduceAdd, Nat.reduceMul, Nat.reduceSub, Nat.add_zero, Nat.zero_add, bh_mk, bc_mk, bn_mk, bo_mk, bO_mk, bF_mk, bL_mk, bT_mk, if_pos, if_neg, ng_lt, ng_le, ng_lt2, ng_le2, ng_eq, ng_eq2, ng_nn, ng_dec, ng_dec0, sb_nle, sb_nlt, bI_0, bI_1, bI_t, bI_f, bI_nar, bitW_e, and_false, false_and, Nat.add_sub_cancel, if_false, if_true, c_0, c_1, c_2, c_3, c_4, c_5, c_6, c_7, c_8, c_9, c_10, c_11, c_12, c_13, c_16, c_17, c_20, c_24, c_28, c_36, c_37, c_39, c_40, c_41, c_42, c_43, c_45, c_47, c_48, c_49, c_57, c_59, c_60, c_61, c_62, c_80, c_81, c_97, c_99, c_100, c_104, c_107, c_109, c_115, c_116, c_120, c_216, c_217, c_255, c_256, c_1000, c_2000, c_9999, c_1000000, f_X6_known_4, h1, h2, h3, h4, b1, b5, e_known hN b2 b3 b4]
  · simp (disch := omega) only [Option.bind_some, Option.map_some, Option.bind_none, Option.bind_fun_none, zrdI, zrdR, zwrI, zwrR, zwrZ, zvs, zald, zast, zlald, zlast, zaald, zlen, sh_sI, sh_sL, sh_sR, gr_sI, gr_sL, gi_sL, gi_sR, gl_sI, gl_sR, sz_sI, sz_sL, sz_sR, gi_sI, gl_sL, gr_sR, nar20, nar22_0, nar22_1, narb0, narb1, nI_clamp, zin_nI, nI_leI, nI_ltI, nI_eq, nI_add, nI_mul, nI_sub, nI_dec, nI_lt0, nI_0le, neg1_lt, neg1_le, neg1_ne, neg1_ne2, reduceIte, eq_self, ite_true, ite_false, true_and, and_true, or_true, true_or, and_self, Nat.reduceEqDiff, Nat.reduceAdd, Nat.reduceMul, Nat.reduceSub, Nat.add_zero, Nat.zero_add, bh_mk, bc_mk, bn_mk, bo_mk, bO_mk, bF_mk, bL_mk, bT_mk, if_pos, if_neg, ng_lt, ng_le, ng_lt2, ng_le2, ng_eq, ng_eq2, ng_nn, ng_dec, ng_dec0, sb_nle, sb_nlt, bI_0, bI_1, bI_t, bI_f, bI_nar, bitW_e, and_false, false_and, Nat.add_sub_cancel, if_false, if_true, c_0, c_1, c_2, c_3, c_4, c_5, c_6, c_7, c_8, c_9, c_10, c_11, c_12, c_13, c_16, c_17, c_20, c_24, c_28, c_36, c_37, c_39, c_40, c_41, c_42, c_43, c_45, c_47, c_48, c_49, c_57, c_59, c_60, c_61, c_62, c_80, c_81, c_97, c_99, c_100, c_104, c_107, c_109, c_115, c_116, c_120, c_216, c_217, c_255, c_256, c_1000, c_2000, c_9999, c_1000000, f_X6_known_4, h1, h4]
    rfl
def sdA (A : ZA) (k : Nat) : Int32 := zfold (fun p acc => acc ||| bitsN (sayA A (aB A p) (ame A p)) (min 8 (sayA A (aB A p) (ame A p)).length)) k (nI 0)
theorem k_unsaid (hN : 10000 ≤ N) : Call (fun x g => f_X11_unsaid N x g) (fun m g => f_X12_unsaid N m g) := call_q (fun x m c g A hC hA hc => by
  have n6 := hA.1.1
  refine ⟨(255 : Int32) &&& (sdA A (an A) ^^^ (-1 : Int32)), [((255 : Int32) &&& (knA A (an A) ^^^ (-1 : Int32))).toInt64], by simp, ?_, fun g' hR => ?_⟩
  · unfold QC f_X11_unsaid
    rw [p_vs hC.1.1.s0, c_8]
    refine (c_gather hN hC.1 hA (by omega)).bind (fun g1 h1 => ?_)
    obtain ⟨J1, C1, e1⟩ := h1
    refine zW_for (fun i s => s = (sdA A i, nI i)) (an A) (fun i s hi hs => ?_) (fun s hs => ?_) (by omega) (Nat.zero_le _) rfl
    · subst hs
      show zW (f_X11_unsaid_10 N x (sdA A i) (nI i) g1) _
      unfold f_X11_unsaid_10
      rw [p_rdR C1.1.s0, C1.1.r0_6, Option.bind_some, p_rdI C1.1.SL23.f.1, Option.bind_some, C1.2.2.2.2.2.1.1.1, if_neg (nI_ge hi (by omega)), p_rdR C1.1.s0, C1.1.r0_16, Option.bind_some, a20_6 C1.1.s515 (by omega), e1 i hi, Option.bind_some, zW_some, zI_inl, c_1, nI_add]
      rfl
    · subst hs
      show zW (f_X11_unsaid_10 N x (sdA A (an A)) (nI (an A)) g1) _
      unfold f_X11_unsaid_10
      refine c_size C1 ?_
      rw [if_pos (nI_le (Nat.le_refl _) (by omega)), zW_map]
      refine w_rdR C1.1.s0 C1.1.r0_1 (w_rdR C1.1.s0 C1.1.r0_6 (w_vs C1.1.SL23.f.1 (w_eq (e_known6 hN C1 hA) ?_)))
      refine w_vs C1.1.s3 ((s_only ⟨C1.1.s3, C1.1.s4, C1.1.r3_0⟩).bind (fun g2 h2 => ?_))
      obtain ⟨J2, X2⟩ := h2
      rw [zW_some]
      exact ⟨rfl, (J1.mono (fun a j z => by omega)).trans (J2.mono (fun a j z => by omega)), X2⟩
  · unfold QF f_X12_unsaid
    refine r_start hR hA (fun g1 J0 hR1 _ => ?_)
    refine zW_for (fun i s => s.1 = sdA A i ∧ s.2.1 = knA A i ∧ s.2.2.1 = nI i ∧ zM m (ScM m) g' s.2.2.2 ∧ RJ m s.2.2.2 A) (an A) (fun i s hi hs => ?_) (fun s hs => ?_) (by omega) (Nat.zero_le _) ⟨rfl, rfl, rfl, J0, hR1.1⟩
    · obtain ⟨y, z, w, g2⟩ := s
      obtain ⟨h1, h2, h3, h4, h5⟩ := hs
      dsimp only at h1 h2 h3 h4 h5
      subst h1 h2 h3
      show zW (f_X12_unsaid_11 N m (sdA A i) (knA A i) (nI i) g2) _
      unfold f_X12_unsaid_11
      rw [p_rdI h5.1.s0, Option.bind_some, h5.2.2.2.2.2.2.1.1, if_neg (nI_ge hi (by omega)), p_vs h5.1.s0, c_8]
      refine (r_saidBits hN h5 hA hi (by omega)).bind (fun o ho => ?_)
      obtain ⟨y, g3⟩ := o
      obtain ⟨o1, o2, o3⟩ := ho
      dsimp only at o1 o2 o3
      subst o1
      dsimp only
      rw [p_rdR o3.1.s0, o3.1.r0, Option.bind_some, e_heardBits hN o3.1.s1 (by omega) (o3.2.2.2.2.2.2.1.2.2.2 i hi) (hA.1.2.2.1 i hi), Option.bind_some, zW_some, zI_inl, c_1, nI_add]
      exact ⟨rfl, rfl, rfl, h4.trans (o2.mono (fun a j z => by omega)), o3⟩
    · obtain ⟨y, z, w, g2⟩ := s
      obtain ⟨h1, h2, h3, h4, h5⟩ := hs
      dsimp only at h1 h2 h3 h4 h5
      subst h1 h2 h3
      show zW (f_X12_unsaid_11 N m (sdA A (an A)) (knA A (an A)) (nI (an A)) g2) _
      unfold f_X12_unsaid_11
      rw [p_rdI h5.1.s0, Option.bind_some, h5.2.2.2.2.2.2.1.1, if_pos (nI_le (Nat.le_refl _) (by omega)), zW_map]
      refine r_only h5 hA (fun g3 J3 W3 R3 => ?_)
      rw [zW_some]
      exact ⟨rfl, h4.trans ((J3.toM (m := m)).mono (fun a j z => by omega)), W3⟩)
/-! the soonest -/
def snF (A : ZA) (w p : Nat) (s : Nat × Nat × Nat) : Nat × Nat × Nat := if ix (sayA A (aB A p) (ame A p)) w < (sayA A (aB A p) (ame A p)).length then (if ix (sayA A (aB A p) (ame A p)) w < s.2.1 then (p + 1, ix (sayA A (aB A p) (ame A p)) w, s.2.2 + 1) else (s.1, s.2.1, s.2.2 + 1)) else s
def sn (A : ZA) (w k : Nat) : Nat × Nat × Nat := zfold (snF A w) k (0, 8, 0)
theorem sn_s {A : ZA} {w k : Nat} : sn A w (k + 1) = snF A w k (sn A w k) := rfl
theorem sn_inv {A : ZA} {w : Nat} : ∀ k, (sn A w k).1 ≤ k ∧ (sn A w k).2.1 ≤ 8 ∧ ((sn A w k).1 = 0 → (sn A w k).2.1 = 8) ∧ (sn A w k).2.2 ≤ k
  | 0 => ⟨Nat.le_refl _, Nat.le_refl _, fun _ => rfl, Nat.le_refl _⟩
  | k + 1 => by
    obtain ⟨h1, h2, h3, h4⟩ := sn_inv (A := A) (w := w) k
    rw [sn_s]
    unfold snF
    split
    · split
      · exact ⟨Nat.le_refl _, by show ix _ _ ≤ 8; omega, fun h => absurd h (by show k + 1 ≠ 0; omega), by show _ + 1 ≤ _; omega⟩
      · exact ⟨by show _ ≤ _; omega, h2, h3, by show _ + 1 ≤ _; omega⟩
    · exact ⟨by omega, h2, h3, by omega⟩
theorem k_soonest (hN : 10000 ≤ N) (v : Int32) : Call (fun x g => f_X11_soonest N x v g) (fun m g => f_X12_soonest N m v g) := call_q (fun x m c g A hC hA hc => by
  have n6 := hA.1.1
  cases hv : rb v 0 8 with
  | false =>
    refine ⟨-1, aR A, hA.2.2.2.2.1, ?_, fun g' hR => ?_⟩
    · unfold QC f_X11_soonest
      rw [e_iw11, Option.bind_some, if_pos (bI_eq hv), zW_some]
      exact ⟨rfl, zJ.rfl, hC.2⟩
    · unfold QF f_X12_soonest
      refine r_start hR hA (fun g1 J0 hR1 _ => ?_)
      rw [e_iw12, Option.bind_some, if_pos (bI_eq hv), zW_some]
      exact ⟨rfl, J0, hR1.2⟩
  | true =>
    obtain ⟨w, -, hw, rfl⟩ := rb_t hv (by omega)
    refine ⟨if (sn A w (an A)).1 = 0 then -nI 2 else nI ((sn A w (an A)).1 - 1), if (sn A w (an A)).1 = 0 then aR A else [wL (sn A w (an A)).2.1, wL (sn A w (an A)).2.2], by split; exact hA.2.2.2.2.1; simp, ?_, fun g' hR => ?_⟩
    · unfold QC f_X11_soonest
      rw [e_iw11, Option.bind_some, if_neg (bI_ne hv)]
      refine zW_for (fun i s => s.1 = (if (sn A w i).1 = 0 then -nI 1 else nI ((sn A w i).1 - 1)) ∧ s.2.1 = nI (sn A w i).2.1 ∧ s.2.2.1 = nI (sn A w i).2.2 ∧ s.2.2.2.1 = nI i ∧ zJ (SFc x (x + 480)) g s.2.2.2.2 ∧ CJ x s.2.2.2.2 A) (an A) (fun i s hi hs => ?_) (fun s hs => ?_) (by omega) (Nat.zero_le _) ⟨rfl, rfl, rfl, rfl, zJ.rfl, hC.1⟩
      · obtain ⟨y1, y2, y3, y4, g2⟩ := s
        obtain ⟨h1, h2, h3, h4, h5, h6⟩ := hs
        dsimp only at h1 h2 h3 h4 h5 h6
        subst h2 h3 h4
        obtain ⟨i1, i2, i3, i4⟩ := sn_inv (A := A) (w := w) i
        show zW (f_X11_soonest_20 N x (nI w) y1 (nI (sn A w i).2.1) (nI (sn A w i).2.2) (nI i) g2) _
        unfold f_X11_soonest_20
        refine c_size h6 ?_
        rw [if_neg (nI_ge hi (by omega))]
        refine c_say hN h6 hA hi (Or.inl ⟨rfl, rfl⟩) (fun g3 J3 T3 C3 => ?_)
        have hl8 : (sayA A (aB A i) (ame A i)).length ≤ 8 := says_len
        rw [p_rdR C3.1.s0, C3.1.r0_12, Option.bind_some, p_vs C3.1.TL480.f.1, e_placeOf hN C3.1.TL480 T3 (by omega), Option.bind_some]
        unfold f_X11_soonest_76 f_X11_soonest_94
        by_cases e : ix (sayA A (aB A i) (ame A i)) w < (sayA A (aB A i) (ame A i)).length
        · have hne : ¬ nI (ix (sayA A (aB A i) (ame A i)) w) = -1 := fun h => by rw [show (-1 : Int32) = -nI 1 from rfl, ng_eq (by omega) (by omega)] at h; omega
          rw [if_pos e, if_neg hne, if_neg hne]
          by_cases e2 : ix (sayA A (aB A i) (ame A i)) w < (sn A w i).2.1
          · rw [if_neg (nI_ge e2 (by omega)), zW_some, zI_inl, c_1, nI_add, nI_add]
            have hs : sn A w (i + 1) = (i + 1, ix (sayA A (aB A i) (ame A i)) w, (sn A w i).2.2 + 1) := by rw [sn_s]; unfold snF; rw [if_pos e, if_pos e2]
            rw [hs]
            exact ⟨by show nI i = _; rw [if_neg (by omega)]; rfl, rfl, rfl, rfl, h5.trans J3, C3⟩
          · rw [if_pos (nI_le (by omega) (by omega)), zW_some, zI_inl, c_1, nI_add, nI_add]
            have hs : sn A w (i + 1) = ((sn A w i).1, (sn A w i).2.1, (sn A w i).2.2 + 1) := by rw [sn_s]; unfold snF; rw [if_pos e, if_neg e2]
            rw [hs]
            exact ⟨h1, rfl, rfl, rfl, h5.trans J3, C3⟩
        · rw [if_neg e, if_pos (show -nI 1 = -1 from rfl), if_pos (show -nI 1 = -1 from rfl), zW_some, zI_inl, c_1, nI_add]
          have hs : sn A w (i + 1) = sn A w i := by rw [sn_s]; unfold snF; rw [if_neg e]
          rw [hs]
          exact ⟨h1, rfl, rfl, rfl, h5.trans J3, C3⟩
      · obtain ⟨y1, y2, y3, y4, g2⟩ := s
        obtain ⟨h1, h2, h3, h4, h5, h6⟩ := hs
        dsimp only at h1 h2 h3 h4 h5 h6
        subst h2 h3 h4
        obtain ⟨i1, i2, i3, i4⟩ := sn_inv (A := A) (w := w) (an A)
        show zW (f_X11_soonest_20 N x (nI w) y1 (nI (sn A w (an A)).2.1) (nI (sn A w (an A)).2.2) (nI (an A)) g2) _
        unfold f_X11_soonest_20
        refine c_size h6 ?_
        rw [if_pos (nI_le (Nat.le_refl _) (by omega)), zW_map]
        by_cases e : (sn A w (an A)).1 = 0
        · rw [if_pos e] at h1
          subst h1
          rw [if_pos (show -nI 1 = -1 from rfl), zW_some, if_pos e, if_pos e]
          exact ⟨rfl, h5.mono (fun a j z => by omega), hC.2.keep h5 (by omega) (fun j => by omega)⟩
        · rw [if_neg e] at h1
          subst h1
          rw [if_neg (fun h => by rw [show (-1 : Int32) = -nI 1 from rfl, ng_eq (by omega) (by omega)] at h; omega), if_neg e, if_neg e]
          refine c_pair h6 hA (fun g3 J3 X3 C3 => ?_)
          rw [zW_some]
          exact ⟨rfl, (h5.mono (fun a j z => by omega)).trans (J3.mono (fun a j z => by omega)), X3⟩
    · unfold QF f_X12_soonest
      refine r_start hR hA (fun g1 J0 hR1 _ => ?_)
      rw [e_iw12, Option.bind_some, if_neg (bI_ne hv)]
      refine zW_for (fun i s => s.1 = (if (sn A w i).1 = 0 then -nI 2 else nI ((sn A w i).1 - 1)) ∧ s.2.1 = (if (sn A w i).1 = 0 then nI 1000000 else nI (sn A w i).2.1) ∧ s.2.2.1 = nI (sn A w i).2.2 ∧ s.2.2.2.1 = nI i ∧ zM m (SY m (m + 12)) g1 s.2.2.2.2 ∧ RJ m s.2.2.2.2 A) (an A) (fun i s hi hs => ?_) (fun s hs => ?_) (by omega) (Nat.zero_le _) ⟨rfl, rfl, rfl, rfl, zM.rfl, hR1.1⟩
      · obtain ⟨y1, y2, y3, y4, g2⟩ := s
        obtain ⟨h1, h2, h3, h4, h5, h6⟩ := hs
        dsimp only at h1 h2 h3 h4 h5 h6
        subst h3 h4
        obtain ⟨i1, i2, i3, i4⟩ := sn_inv (A := A) (w := w) i
        show zW (f_X12_soonest_27 N m (nI w) y1 y2 (nI (sn A w i).2.2) (nI i) g2) _
        unfold f_X12_soonest_27 f_X12_soonest_75
        rw [p_rdI h6.1.s0, Option.bind_some, h6.2.2.2.2.2.2.1.1, if_neg (nI_ge hi (by omega)), p_rdR h6.1.s0, h6.1.r0, Option.bind_some, p_vs h6.1.s0]
        refine (r_placeOf hN h6 hA (Or.inl rfl) hi (h6.2.2.2.2.2.2.1.2.2.2 i hi) (hA.1.2.2.1 i hi) (by omega)).bind (fun o ho => ?_)
        obtain ⟨y, g3⟩ := o
        obtain ⟨o1, o2⟩ := ho
        dsimp only at o1 o2 ⊢
        subst o1
        have R3 : RJ m g3 A := h6.keep hA o2 (fun a j z => by omega)
        have J3 := h5.trans o2
        have hl8 : (sayA A (aB A i) (ame A i)).length ≤ 8 := says_len
        by_cases e : ix (sayA A (aB A i) (ame A i)) w < (sayA A (aB A i) (ame A i)).length
        · rw [if_pos e, if_pos (show (0 : Int32) ≤ nI _ from nI_pos' (by omega))]
          by_cases e2 : ix (sayA A (aB A i) (ame A i)) w < (sn A w i).2.1
          · have hlt : nI (ix (sayA A (aB A i) (ame A i)) w) < y2 := by
              rw [h2]
              split
              · exact nI_lt (by omega) (by omega)
              · exact nI_lt e2 (by omega)
            rw [if_pos hlt, zW_some, zI_inl, c_1, nI_add, nI_add]
            have hs : sn A w (i + 1) = (i + 1, ix (sayA A (aB A i) (ame A i)) w, (sn A w i).2.2 + 1) := by rw [sn_s]; unfold snF; rw [if_pos e, if_pos e2]
            rw [hs]
            exact ⟨by show nI i = _; rw [if_neg (by omega)]; rfl, by show nI _ = _; rw [if_neg (by omega)], rfl, rfl, J3, R3⟩
          · have hb : (sn A w i).1 ≠ 0 := fun h => by have := i3 h; omega
            rw [if_neg hb] at h2
            rw [h2, if_neg (nI_nlt (by omega) (by omega)), zW_some, zI_inl, c_1, nI_add, nI_add]
            have hs : sn A w (i + 1) = ((sn A w i).1, (sn A w i).2.1, (sn A w i).2.2 + 1) := by rw [sn_s]; unfold snF; rw [if_pos e, if_neg e2]
            rw [hs]
            exact ⟨h1, by show nI _ = _; rw [if_neg hb], rfl, rfl, J3, R3⟩
        · rw [if_neg e, if_neg (show ¬ (0 : Int32) ≤ -nI 2 by decide), zW_some, zI_inl, c_1, nI_add]
          have hs : sn A w (i + 1) = sn A w i := by rw [sn_s]; unfold snF; rw [if_neg e]
          rw [hs]
          exact ⟨h1, h2, rfl, rfl, J3, R3⟩
      · obtain ⟨y1, y2, y3, y4, g2⟩ := s
        obtain ⟨h1, h2, h3, h4, h5, h6⟩ := hs
        dsimp only at h1 h2 h3 h4 h5 h6
        subst h3 h4
        obtain ⟨i1, i2, i3, i4⟩ := sn_inv (A := A) (w := w) (an A)
        show zW (f_X12_soonest_27 N m (nI w) y1 y2 (nI (sn A w (an A)).2.2) (nI (an A)) g2) _
        unfold f_X12_soonest_27
        rw [p_rdI h6.1.s0, Option.bind_some, h6.2.2.2.2.2.2.1.1, if_pos (nI_le (Nat.le_refl _) (by omega)), zW_map]
        by_cases e : (sn A w (an A)).1 = 0
        · rw [if_pos e] at h1
          subst h1
          rw [if_pos (show -nI 2 = -2 from rfl), zW_some, if_pos e, if_pos e]
          exact ⟨rfl, J0.trans (h5.mono (fun a j z => by omega)), hR1.2.keepM h5 (by omega) (fun j => by omega)⟩
        · rw [if_neg e] at h1 h2
          subst h1 h2
          rw [if_neg (fun h => by rw [show (-2 : Int32) = -nI 2 from rfl, ng_eq (by omega) (by omega)] at h; omega), if_neg e, if_neg e]
          refine r_pair h6 hA (fun g3 J3 X3 C3 => ?_)
          rw [zW_some]
          exact ⟨rfl, (J0.trans (h5.mono (fun a j z => by omega))).trans ((J3.toM (m := m)).mono (fun a j z => by omega)), X3⟩)
end K2
