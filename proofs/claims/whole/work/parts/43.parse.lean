/-! ===== the reference parses a rule ===== -/
abbrev SA (m : Nat) : Nat → Nat → Prop := fun x j => x = m ∧ (j = 14 ∨ j = 15)
def PG (g : ZS) (m u n : Nat) (l : List Nat) (t : Nat) (ak : Nat → Int32) : Prop := zsh g m = some (12, 0) ∧ RD g m u n l t ∧ m ≠ u ∧ zgr g m 21 = some (m + 11) ∧ zsh g (m + 11) = some (20, 7) ∧ (zgi g m 20 = nI 0 ∧ (∀ i, i < 7 → ak i = nI 0) ∨ zgi g m 20 = nI 1 ∧ ∀ i, i < 7 → zgi g (m + 11) i = ak i)
theorem PG.J {g g' : ZS} {m u n : Nat} {l : List Nat} {t : Nat} {ak : Nat → Int32} (h : PG g m u n l t ak) (hJ : zJ (SA m) g g') : PG g' m u n l t ak := by
  obtain ⟨a1, a2, a3, a4, a5, a6⟩ := h
  refine ⟨by rw [hJ.sh]; exact a1, a2.J hJ (by omega) (by omega) (fun j => by omega), a3, by rw [hJ.gr]; exact a4, by rw [hJ.sh]; exact a5, ?_⟩
  rcases a6 with ⟨b1, b2⟩ | ⟨b1, b2⟩
  · exact Or.inl ⟨by rw [hJ.gi (by omega)]; exact b1, b2⟩
  · exact Or.inr ⟨by rw [hJ.gi (by omega)]; exact b1, fun i hi => by rw [hJ.gi (by omega)]; exact b2 i hi⟩
def SimX (v : List Nat) (s deep p p' : Nat) (code : List Nat) : Prop := match s with
  | 0 => SimH v deep p p' code
  | s + 1 => SimB v (s + 1) deep p p' code
def FlX (v : List Nat) (s deep p e : Nat) : Prop := match s with
  | 0 => FlH v deep p e
  | s + 1 => Fl v (s + 1) deep p e
def StpR (v : List Nat) (s p : Nat) : Prop := (s ≤ 2 → rk v p ≠ 3) ∧ (s ≤ 1 → rk v p ≠ 2)
def PPost (m : Nat) (v : List Nat) (s deep p : Nat) (ak : Nat → Int32) (g : ZS) (o : Int32 × ZS) : Prop :=
  zJ (SA m) g o.2 ∧ ((zgi o.2 m 15 = -nI 1 ∧ ∃ p' code, p < p' ∧ p' ≤ v.length ∧ zgi o.2 m 14 = nI p' ∧ SimX v s deep p p' code ∧ StpR v s p' ∧ evIs ak code o.1) ∨ (∃ e, e ≤ v.length ∧ zgi o.2 m 15 = nI e ∧ FlX v s deep p e))
def PIH (m u n : Nat) (l : List Nat) (t : Nat) (ak : Nat → Int32) (F : Nat → Nat → Int32 → ZS → Option (Int32 × ZS)) (fuel : Nat) : Prop := ∀ s deep p g, s ≤ 3 → deep ≤ 4 → p ≤ (l.take t).length → ((l.take t).length - p) + 4 * (4 - deep) + (4 - s) ≤ fuel → PG g m u n l t ak → zgi g m 14 = nI p → zgi g m 15 = -nI 1 → zW (F s m (nI deep) g) (PPost m (l.take t) s deep p ak g)
theorem rk_3 {v : List Nat} {q : Nat} (h : rk v q = 3) : q < v.length ∧ (v.getD q 0 = 42 ∨ v.getD q 0 = 47) := by
  unfold rk at h
  split at h
  · rename_i hq
    refine ⟨hq, ?_⟩
    unfold rkO at h
    repeat' split at h
    all_goals omega
  · omega
theorem rk_2 {v : List Nat} {q : Nat} (h : rk v q = 2) : q < v.length ∧ (v.getD q 0 = 43 ∨ v.getD q 0 = 45) := by
  unfold rk at h
  split at h
  · rename_i hq
    refine ⟨hq, ?_⟩
    unfold rkO at h
    repeat' split at h
    all_goals omega
  · omega
theorem rk_1 {v : List Nat} {q : Nat} (h : rk v q = 1) : q < v.length ∧ (v.getD q 0 = 60 ∨ v.getD q 0 = 61 ∨ v.getD q 0 = 62) := by
  unfold rk at h
  split at h
  · rename_i hq
    refine ⟨hq, ?_⟩
    unfold rkO at h
    repeat' split at h
    all_goals omega
  · omega
theorem e_letter {c : Nat} (h : c < 256) : f_X12_letterOf (nI c) = some (if lkO c < 7 then nI (lkO c) else -nI 1) := co_dec (N := 256) (P := fun c => f_X12_letterOf (nI c) = some (if lkO c < 7 then nI (lkO c) else -nI 1)) (by decide +kernel) h
theorem e_letter0 : f_X12_letterOf (-nI 1) = some (-nI 1) := by decide +kernel
theorem e_letterH {v : List Nat} {p : Nat} (hv : v.getD p 0 < 256) : f_X12_letterOf (hr v p) = some (if p < v.length ∧ lkO (v.getD p 0) < 7 then nI (lkO (v.getD p 0)) else -nI 1) := by
  unfold hr
  by_cases e : p < v.length
  · rw [if_pos e, e_letter hv]
    by_cases e2 : lkO (v.getD p 0) < 7
    · rw [if_pos e2, if_pos ⟨e, e2⟩]
    · rw [if_neg e2, if_neg (fun h => e2 h.2)]
  · rw [if_neg e, e_letter0, if_neg (fun h => e h.1)]
section PA
variable {N : Nat} {m u n : Nat} {l : List Nat} {t : Nat} {ak : Nat → Int32} {F : Nat → Nat → Int32 → ZS → Option (Int32 × ZS)} {fuel : Nat}
theorem L80 {g : ZS} (h : PG g m u n l t ak) : (l.take t).length ≤ 80 := by
  have := h.2.1.2.2.1
  have := h.2.1.2.2.2.1
  rw [List.length_take]; omega
theorem hrIn_dg {v : List Nat} {p : Nat} : hrIn v p 48 58 = true ↔ p < v.length ∧ dg10 (v.getD p 0) = true := by
  unfold hrIn dg10
  rw [decide_eq_true_eq, decide_eq_true_eq]; omega
theorem q_number (hN : 10000 ≤ N) {g : ZS} {deep p : Nat} (hG : PG g m u n l t ak) (hp : zgi g m 14 = nI p) (hw : zgi g m 15 = -nI 1) (h1 : p < (l.take t).length) (h2 : dg10 ((l.take t).getD p 0) = true) : zW (f_X12_number N m (nI 3) g) (PPost m (l.take t) 3 deep p ak g) := by
  have hL := L80 hG
  obtain ⟨s0, hD, hmu, -⟩ := id hG
  have hone := e_oneY (a := 48) (b := 10) s0 hD hp hw (by omega) hmu (hrIn_dg.mpr ⟨h1, h2⟩)
  have hdd := of_decide_eq_true h2
  unfold f_X12_number
  rw [p_vs s0, c_48, c_10, hone, Option.bind_some, c_1]
  have J0 : zJ (SA m) g (zsetI g m 14 (nI (p + 1))) := zJ.setI ⟨rfl, Or.inl rfl⟩
  refine zW_while (fun k s => ∃ q x, k + q = 3 ∧ 1 ≤ q ∧ p + q ≤ (l.take t).length ∧ s.1 = nI x ∧ x < 10 ^ q ∧ s.2.1 = nI q ∧ zJ (SA m) g s.2.2 ∧ zgi s.2.2 m 14 = nI (p + q) ∧ zgi s.2.2 m 15 = -nI 1 ∧ SimD (l.take t) deep p (p + q) q x) (fun k s hI => ?_) 2 N _ (by omega) ⟨1, (l.take t).getD p 0 - 48, by omega, by omega, by omega, rfl, by omega, rfl, J0, by rw [gi_sI, if_pos ⟨rfl, rfl⟩], by rw [gi_sI, if_neg (by omega)]; exact hw, simD_0 h1 h2⟩
  obtain ⟨y, z, g'⟩ := s
  obtain ⟨q, x, a1, a2, a3, rfl, a5, rfl, a7, a8, a9, a10⟩ := hI
  have hG' := hG.J a7
  obtain ⟨s0', hD', -, -⟩ := id hG'
  have done : (p + q < (l.take t).length → dg10 ((l.take t).getD (p + q) 0) = true → 3 ≤ q) → zW (some (Sum.inr (nI x, g')) : Option ((Int32 × Int32 × ZS) ⊕ (Int32 × ZS))) (zI (fun s' => ∃ k', k' < k ∧ ∃ q x, k' + q = 3 ∧ 1 ≤ q ∧ p + q ≤ (l.take t).length ∧ s'.1 = nI x ∧ x < 10 ^ q ∧ s'.2.1 = nI q ∧ zJ (SA m) g s'.2.2 ∧ zgi s'.2.2 m 14 = nI (p + q) ∧ zgi s'.2.2 m 15 = -nI 1 ∧ SimD (l.take t) deep p (p + q) q x) (PPost m (l.take t) 3 deep p ak g)) := by
    intro hs
    rw [zW_some, zI_inr]
    have hx : x < 1000 := by
      have : q ≤ 3 := by omega
      have : 10 ^ q ≤ 10 ^ 3 := Nat.pow_le_pow_right (by omega) this
      omega
    exact ⟨a7, Or.inl ⟨a9, p + q, [x], by omega, a3, a8, simD_end a10 hs, ⟨fun h => absurd h (by omega), fun h => absurd h (by omega)⟩, ev_num hx⟩⟩
  show zW (f_X12_number_11 N m (nI 3) (nI x) (nI q) g') _
  unfold f_X12_number_11 f_X12_number_57
  by_cases e3 : 3 ≤ q
  · rw [if_pos (nI_le e3 (by omega)), Option.map_some]
    exact done (fun _ _ => e3)
  · rw [if_neg (nI_ge (by omega) (by omega)), p_vs s0', e_fine1 s0' a9, Option.bind_some, if_neg (nI_ne0 (by omega) (by omega)), p_vs s0', e_here s0' hD' a8 (by omega), Option.bind_some, c_48, show (57 : Int32) = nI 57 from rfl, e_in (by omega) (by omega), rb_hr (hD'.vis _) (by omega), Option.bind_some]
    by_cases e4 : hrIn (l.take t) (p + q) 48 (57 + 1) = true
    · obtain ⟨b1, b2⟩ := hrIn_dg.mp e4
      have b3 := of_decide_eq_true b2
      rw [e4, bI_t, if_neg (nI_ne0 (by omega) (by omega)), p_vs s0', c_10, e_oneY (a := 48) (b := 10) s0' hD' a8 a9 (by omega) hmu e4, Option.bind_some, nI_mul, nI_add, c_1, nI_add, zW_some, zI_inl]
      refine ⟨k - 1, by omega, q + 1, 10 * x + ((l.take t).getD (p + q) 0 - 48), by omega, by omega, by omega, rfl, ?_, rfl, a7.setI' ⟨rfl, Or.inl rfl⟩, by rw [gi_sI, if_pos ⟨rfl, rfl⟩]; rfl, by rw [gi_sI, if_neg (by omega)]; exact a9, ?_⟩
      · rw [Nat.pow_succ]; omega
      · rw [Nat.mul_comm 10 x]
        exact simD_s a10 b1 b2 a2 (by omega)
    · rw [Bool.eq_false_iff.mpr e4, bI_f, if_pos (show nI 0 = 0 from rfl), Option.map_some]
      exact done (fun b1 b2 => absurd (hrIn_dg.mpr ⟨b1, b2⟩) e4)
theorem q_thing67 (hN : 10000 ≤ N) {g : ZS} {deep p : Nat} (hG : PG g m u n l t ak) (hp : zgi g m 14 = nI p) (hw : zgi g m 15 = -nI 1) (h1 : p ≤ (l.take t).length) (hd : deep ≤ 4) (h45 : p < (l.take t).length → (l.take t).getD p 0 ≠ 45) (h40 : p < (l.take t).length → (l.take t).getD p 0 = 40 → 4 ≤ deep) : zW (f_X12_thing_67 F N m (hr (l.take t) p) g) (PPost m (l.take t) 3 deep p ak g) := by
  have hL := L80 hG
  obtain ⟨s0, hD, hmu, r21, s11, hak⟩ := id hG
  have hv := hD.vis p
  unfold f_X12_thing_67 f_X12_thing_132
  rw [c_48, show (57 : Int32) = nI 57 from rfl, e_in (by omega) (by omega), rb_hr hv (by omega), Option.bind_some]
  by_cases e4 : hrIn (l.take t) p 48 (57 + 1) = true
  · obtain ⟨b1, b2⟩ := hrIn_dg.mp e4
    rw [e4, bI_t, if_neg (nI_ne0 (by omega) (by omega)), p_vs s0, c_3]
    exact (q_number hN hG hp hw b1 b2).bind (fun o ho => zW_some.mpr ho)
  · have hnd : p < (l.take t).length → dg10 ((l.take t).getD p 0) = false := fun h => Bool.eq_false_iff.mpr (fun x => e4 (hrIn_dg.mpr ⟨h, x⟩))
    rw [Bool.eq_false_iff.mpr e4, bI_f, if_pos (show nI 0 = 0 from rfl), e_letterH hv, Option.bind_some]
    by_cases e5 : p < (l.take t).length ∧ lkO ((l.take t).getD p 0) < 7
    · have h40' : (l.take t).getD p 0 ≠ 40 := by intro h; have := e5.2; rw [h] at this; exact absurd this (by decide)
      have J0 : zJ (SA m) g (zsetI g m 14 (nI (p + 1))) := zJ.setI ⟨rfl, Or.inl rfl⟩
      have fin : ∀ y : Int32, y = ak (lkO ((l.take t).getD p 0)) → PPost m (l.take t) 3 deep p ak g (y, zsetI g m 14 (nI (p + 1))) := fun y hy =>
        ⟨J0, Or.inl ⟨by rw [gi_sI, if_neg (by omega)]; exact hw, p + 1, [1000 + lkO ((l.take t).getD p 0)], by omega, by omega, by rw [gi_sI, if_pos ⟨rfl, rfl⟩], sim_let e5.1 (h45 e5.1) h40' (hnd e5.1) e5.2, ⟨fun h => absurd h (by omega), fun h => absurd h (by omega)⟩, by rw [hy]; exact ev_let e5.2⟩⟩
      rw [if_pos e5]
      rcases hak with ⟨b1, b2⟩ | ⟨b1, b2⟩
      · simp (disch := omega) only [Option.bind_some, Option.map_some, Option.bind_none, Option.bind_fun_none, zrdI, zrdR, zwrI, zwrR, zwrZ, zvs, zald, zast, zlald, zlast, zaald, zlen, sh_sI, sh_sL, sh_sR, gr_sI, gr_sL, gi_sL, gi_sR, gl_sI, gl_sR, sz_sI, sz_sL, sz_sR, gi_sI, gl_sL, gr_sR, nar20, nar22_0, nar22_1, narb0, narb1, nI_clamp, zin_nI, nI_leI, nI_ltI, nI_eq, nI_add, nI_mul, nI_sub, nI_dec, nI_lt0, nI_0le, neg1_lt, neg1_le, neg1_ne, neg1_ne2, reduceIte, eq_self, ite_true, ite_false, true_and, and_true, or_true, true_or, and_self, Nat.reduceEqDiff, Nat.reduceAdd, Nat.reduceMul, Nat.reduceSub, Nat.add_zero, Nat.zero_add, bh_mk, bc_mk, bn_mk, bo_mk, bO_mk, bF_mk, bL_mk, bT_mk, if_pos, if_neg, ng_lt, ng_le, ng_lt2, ng_le2, ng_eq, ng_eq2, ng_nn, ng_dec, ng_dec0, sb_nle, sb_nlt, bI_0, bI_1, bI_t, bI_f, bI_nar, bitW_e, and_false, false_and, Nat.add_sub_cancel, if_false, if_true, c_0, c_1, c_2, c_3, c_4, c_5, c_6, c_7, c_8, c_9, c_10, c_11, c_12, c_13, c_16, c_17, c_20, c_24, c_28, c_36, c_37, c_39, c_40, c_41, c_42, c_43, c_45, c_47, c_48, c_49, c_57, c_59, c_60, c_61, c_62, c_80, c_81, c_97, c_99, c_100, c_104, c_107, c_109, c_115, c_116, c_120, c_216, c_217, c_255, c_256, c_1000, c_2000, c_9999, c_1000000, s0, hp, b1]
        rw [zW_some]
        exact fin _ (b2 _ e5.2).symm
      · have b3 := b2 _ e5.2
        obtain ⟨q, hq⟩ : ∃ q, q = lkO ((l.take t).getD p 0) := ⟨_, rfl⟩
        have e6 := e5.2
        have e7 := e_letterH hv
        rw [if_pos e5] at e7
        rw [← hq] at b3 fin e6 e7 ⊢
        simp (disch := omega) only [Option.bind_some, Option.map_some, Option.bind_none, Option.bind_fun_none, zrdI, zrdR, zwrI, zwrR, zwrZ, zvs, zald, zast, zlald, zlast, zaald, zlen, sh_sI, sh_sL, sh_sR, gr_sI, gr_sL, gi_sL, gi_sR, gl_sI, gl_sR, sz_sI, sz_sL, sz_sR, gi_sI, gl_sL, gr_sR, nar20, nar22_0, nar22_1, narb0, narb1, nI_clamp, zin_nI, nI_leI, nI_ltI, nI_eq, nI_add, nI_mul, nI_sub, nI_dec, nI_lt0, nI_0le, neg1_lt, neg1_le, neg1_ne, neg1_ne2, reduceIte, eq_self, ite_true, ite_false, true_and, and_true, or_true, true_or, and_self, Nat.reduceEqDiff, Nat.reduceAdd, Nat.reduceMul, Nat.reduceSub, Nat.add_zero, Nat.zero_add, bh_mk, bc_mk, bn_mk, bo_mk, bO_mk, bF_mk, bL_mk, bT_mk, if_pos, if_neg, ng_lt, ng_le, ng_lt2, ng_le2, ng_eq, ng_eq2, ng_nn, ng_dec, ng_dec0, sb_nle, sb_nlt, bI_0, bI_1, bI_t, bI_f, bI_nar, bitW_e, and_false, false_and, Nat.add_sub_cancel, if_false, if_true, c_0, c_1, c_2, c_3, c_4, c_5, c_6, c_7, c_8, c_9, c_10, c_11, c_12, c_13, c_16, c_17, c_20, c_24, c_28, c_36, c_37, c_39, c_40, c_41, c_42, c_43, c_45, c_47, c_48, c_49, c_57, c_59, c_60, c_61, c_62, c_80, c_81, c_97, c_99, c_100, c_104, c_107, c_109, c_115, c_116, c_120, c_216, c_217, c_255, c_256, c_1000, c_2000, c_9999, c_1000000, s0, hp, b1, r21, s11, e7, b3]
        rw [zW_some]
        exact fin _ rfl
    · rw [if_neg e5]
      simp (disch := omega) only [Option.bind_some, Option.map_some, Option.bind_none, Option.bind_fun_none, zrdI, zrdR, zwrI, zwrR, zwrZ, zvs, zald, zast, zlald, zlast, zaald, zlen, sh_sI, sh_sL, sh_sR, gr_sI, gr_sL, gi_sL, gi_sR, gl_sI, gl_sR, sz_sI, sz_sL, sz_sR, gi_sI, gl_sL, gr_sR, nar20, nar22_0, nar22_1, narb0, narb1, nI_clamp, zin_nI, nI_leI, nI_ltI, nI_eq, nI_add, nI_mul, nI_sub, nI_dec, nI_lt0, nI_0le, neg1_lt, neg1_le, neg1_ne, neg1_ne2, reduceIte, eq_self, ite_true, ite_false, true_and, and_true, or_true, true_or, and_self, Nat.reduceEqDiff, Nat.reduceAdd, Nat.reduceMul, Nat.reduceSub, Nat.add_zero, Nat.zero_add, bh_mk, bc_mk, bn_mk, bo_mk, bO_mk, bF_mk, bL_mk, bT_mk, if_pos, if_neg, ng_lt, ng_le, ng_lt2, ng_le2, ng_eq, ng_eq2, ng_nn, ng_dec, ng_dec0, sb_nle, sb_nlt, bI_0, bI_1, bI_t, bI_f, bI_nar, bitW_e, and_false, false_and, Nat.add_sub_cancel, if_false, if_true, c_0, c_1, c_2, c_3, c_4, c_5, c_6, c_7, c_8, c_9, c_10, c_11, c_12, c_13, c_16, c_17, c_20, c_24, c_28, c_36, c_37, c_39, c_40, c_41, c_42, c_43, c_45, c_47, c_48, c_49, c_57, c_59, c_60, c_61, c_62, c_80, c_81, c_97, c_99, c_100, c_104, c_107, c_109, c_115, c_116, c_120, c_216, c_217, c_255, c_256, c_1000, c_2000, c_9999, c_1000000, s0, hp, e_fault1 s0 hw]
      rw [zW_some]
      refine ⟨zJ.setI ⟨rfl, Or.inr rfl⟩, Or.inr ⟨p, h1, by rw [gi_sI, if_pos ⟨rfl, rfl⟩], ?_⟩⟩
      exact fl_no h1 hd (fun h => ⟨h45 h, h40 h, hnd h, fun x => e5 ⟨h, x⟩⟩)
theorem q_thing (hN : 10000 ≤ N) (hF : PIH m u n l t ak F fuel) {g : ZS} {deep p : Nat} (hd : deep ≤ 4) (h1 : p ≤ (l.take t).length) (hf : ((l.take t).length - p) + 4 * (4 - deep) + 1 ≤ fuel + 1) (hG : PG g m u n l t ak) (hp : zgi g m 14 = nI p) (hw : zgi g m 15 = -nI 1) : zW (f_X12_thing F N m (nI deep) g) (PPost m (l.take t) 3 deep p ak g) := by
  have hL := L80 hG
  obtain ⟨s0, hD, hmu, r21, s11, hak⟩ := id hG
  have J0 : zJ (SA m) g (zsetI g m 14 (nI (p + 1))) := zJ.setI ⟨rfl, Or.inl rfl⟩
  unfold f_X12_thing
  by_cases hneg : p < (l.take t).length ∧ (l.take t).getD p 0 = 45
  · simp (disch := omega) only [Option.bind_some, Option.map_some, Option.bind_none, Option.bind_fun_none, zrdI, zrdR, zwrI, zwrR, zwrZ, zvs, zald, zast, zlald, zlast, zaald, zlen, sh_sI, sh_sL, sh_sR, gr_sI, gr_sL, gi_sL, gi_sR, gl_sI, gl_sR, sz_sI, sz_sL, sz_sR, gi_sI, gl_sL, gr_sR, nar20, nar22_0, nar22_1, narb0, narb1, nI_clamp, zin_nI, nI_leI, nI_ltI, nI_eq, nI_add, nI_mul, nI_sub, nI_dec, nI_lt0, nI_0le, neg1_lt, neg1_le, neg1_ne, neg1_ne2, reduceIte, eq_self, ite_true, ite_false, true_and, and_true, or_true, true_or, and_self, Nat.reduceEqDiff, Nat.reduceAdd, Nat.reduceMul, Nat.reduceSub, Nat.add_zero, Nat.zero_add, bh_mk, bc_mk, bn_mk, bo_mk, bO_mk, bF_mk, bL_mk, bT_mk, if_pos, if_neg, ng_lt, ng_le, ng_lt2, ng_le2, ng_eq, ng_eq2, ng_nn, ng_dec, ng_dec0, sb_nle, sb_nlt, bI_0, bI_1, bI_t, bI_f, bI_nar, bitW_e, and_false, false_and, Nat.add_sub_cancel, if_false, if_true, c_0, c_1, c_2, c_3, c_4, c_5, c_6, c_7, c_8, c_9, c_10, c_11, c_12, c_13, c_16, c_17, c_20, c_24, c_28, c_36, c_37, c_39, c_40, c_41, c_42, c_43, c_45, c_47, c_48, c_49, c_57, c_59, c_60, c_61, c_62, c_80, c_81, c_97, c_99, c_100, c_104, c_107, c_109, c_115, c_116, c_120, c_216, c_217, c_255, c_256, c_1000, c_2000, c_9999, c_1000000, s0, e_passY s0 hD hp hw (by omega) hneg.1 hneg.2]
    refine (hF 3 deep (p + 1) _ (by omega) hd (by omega) (by omega) (hG.J J0) (by rw [gi_sI, if_pos ⟨rfl, rfl⟩]) (by rw [gi_sI, if_neg (by omega)]; exact hw)).bind (fun o ho => ?_)
    rw [zW_some]
    obtain ⟨J, ho⟩ := ho
    refine ⟨J0.trans J, ?_⟩
    rcases ho with ⟨w, p', code, a1, a2, a3, a4, a5, a6⟩ | ⟨e, b1, b2, b3⟩
    · exact Or.inl ⟨w, p', code ++ [2256], by omega, a2, a3, sim_neg hneg.1 hneg.2 a4, a5, ev_neg a6⟩
    · exact Or.inr ⟨e, b1, b2, fl_neg hneg.1 hneg.2 b3⟩
  · have h45 : p < (l.take t).length → (l.take t).getD p 0 ≠ 45 := fun h x => hneg ⟨h, x⟩
    rw [p_vs s0, c_45, e_passN s0 hD hp (by omega) hw (by omega) h45, Option.bind_some]
    show zW (if nI 0 = 0 then _ else _) _
    rw [if_pos (show nI 0 = 0 from rfl)]
    show zW (zvs g m 12 <| (f_X12_fine m g).bind _) _
    rw [p_vs s0, e_fine1 s0 hw, Option.bind_some, if_neg (nI_ne0 (by omega) (by omega)), p_vs s0, e_here s0 hD hp (by omega), Option.bind_some, show (40 : Int32) = nI 40 from rfl]
    by_cases hpar : p < (l.take t).length ∧ (l.take t).getD p 0 = 40
    · rw [if_pos ((hr_eq (hD.vis p) (by omega)).mpr hpar)]
      by_cases hd4 : deep < 4
      · simp (disch := omega) only [Option.bind_some, Option.map_some, Option.bind_none, Option.bind_fun_none, zrdI, zrdR, zwrI, zwrR, zwrZ, zvs, zald, zast, zlald, zlast, zaald, zlen, sh_sI, sh_sL, sh_sR, gr_sI, gr_sL, gi_sL, gi_sR, gl_sI, gl_sR, sz_sI, sz_sL, sz_sR, gi_sI, gl_sL, gr_sR, nar20, nar22_0, nar22_1, narb0, narb1, nI_clamp, zin_nI, nI_leI, nI_ltI, nI_eq, nI_add, nI_mul, nI_sub, nI_dec, nI_lt0, nI_0le, neg1_lt, neg1_le, neg1_ne, neg1_ne2, reduceIte, eq_self, ite_true, ite_false, true_and, and_true, or_true, true_or, and_self, Nat.reduceEqDiff, Nat.reduceAdd, Nat.reduceMul, Nat.reduceSub, Nat.add_zero, Nat.zero_add, bh_mk, bc_mk, bn_mk, bo_mk, bO_mk, bF_mk, bL_mk, bT_mk, if_pos, if_neg, ng_lt, ng_le, ng_lt2, ng_le2, ng_eq, ng_eq2, ng_nn, ng_dec, ng_dec0, sb_nle, sb_nlt, bI_0, bI_1, bI_t, bI_f, bI_nar, bitW_e, and_false, false_and, Nat.add_sub_cancel, if_false, if_true, c_0, c_1, c_2, c_3, c_4, c_5, c_6, c_7, c_8, c_9, c_10, c_11, c_12, c_13, c_16, c_17, c_20, c_24, c_28, c_36, c_37, c_39, c_40, c_41, c_42, c_43, c_45, c_47, c_48, c_49, c_57, c_59, c_60, c_61, c_62, c_80, c_81, c_97, c_99, c_100, c_104, c_107, c_109, c_115, c_116, c_120, c_216, c_217, c_255, c_256, c_1000, c_2000, c_9999, c_1000000, s0, hp]
        refine (hF 0 (deep + 1) (p + 1) _ (by omega) (by omega) (by omega) (by omega) (hG.J J0) (by rw [gi_sI, if_pos ⟨rfl, rfl⟩]) (by rw [gi_sI, if_neg (by omega)]; exact hw)).bind (fun o ho => ?_)
        obtain ⟨J, ho⟩ := ho
        have hG2 := (hG.J J0).J J
        obtain ⟨s02, hD2, -, -⟩ := id hG2
        rcases ho with ⟨w, p', code, a1, a2, a3, a4, a5, a6⟩ | ⟨e, b1, b2, b3⟩
        · by_cases h41 : p' < (l.take t).length ∧ (l.take t).getD p' 0 = 41
          · simp (disch := omega) only [Option.bind_some, Option.map_some, Option.bind_none, Option.bind_fun_none, zrdI, zrdR, zwrI, zwrR, zwrZ, zvs, zald, zast, zlald, zlast, zaald, zlen, sh_sI, sh_sL, sh_sR, gr_sI, gr_sL, gi_sL, gi_sR, gl_sI, gl_sR, sz_sI, sz_sL, sz_sR, gi_sI, gl_sL, gr_sR, nar20, nar22_0, nar22_1, narb0, narb1, nI_clamp, zin_nI, nI_leI, nI_ltI, nI_eq, nI_add, nI_mul, nI_sub, nI_dec, nI_lt0, nI_0le, neg1_lt, neg1_le, neg1_ne, neg1_ne2, reduceIte, eq_self, ite_true, ite_false, true_and, and_true, or_true, true_or, and_self, Nat.reduceEqDiff, Nat.reduceAdd, Nat.reduceMul, Nat.reduceSub, Nat.add_zero, Nat.zero_add, bh_mk, bc_mk, bn_mk, bo_mk, bO_mk, bF_mk, bL_mk, bT_mk, if_pos, if_neg, ng_lt, ng_le, ng_lt2, ng_le2, ng_eq, ng_eq2, ng_nn, ng_dec, ng_dec0, sb_nle, sb_nlt, bI_0, bI_1, bI_t, bI_f, bI_nar, bitW_e, and_false, false_and, Nat.add_sub_cancel, if_false, if_true, c_0, c_1, c_2, c_3, c_4, c_5, c_6, c_7, c_8, c_9, c_10, c_11, c_12, c_13, c_16, c_17, c_20, c_24, c_28, c_36, c_37, c_39, c_40, c_41, c_42, c_43, c_45, c_47, c_48, c_49, c_57, c_59, c_60, c_61, c_62, c_80, c_81, c_97, c_99, c_100, c_104, c_107, c_109, c_115, c_116, c_120, c_216, c_217, c_255, c_256, c_1000, c_2000, c_9999, c_1000000, s02, f_X12_need, f_X12_need_16, e_passY s02 hD2 a3 w (by omega) h41.1 h41.2]
            rw [zW_some]
            exact ⟨(J0.trans J).setI' ⟨rfl, Or.inl rfl⟩, Or.inl ⟨by rw [gi_sI, if_neg (by omega)]; exact w, p' + 1, code, by omega, by omega, by rw [gi_sI, if_pos ⟨rfl, rfl⟩], sim_par hd4 hpar.1 hpar.2 a4 h41.1 h41.2, ⟨fun h => absurd h (by omega), fun h => absurd h (by omega)⟩, a6⟩⟩
          · have h41' : p' < (l.take t).length → (l.take t).getD p' 0 ≠ 41 := fun h x => h41 ⟨h, x⟩
            simp (disch := omega) only [Option.bind_some, Option.map_some, Option.bind_none, Option.bind_fun_none, zrdI, zrdR, zwrI, zwrR, zwrZ, zvs, zald, zast, zlald, zlast, zaald, zlen, sh_sI, sh_sL, sh_sR, gr_sI, gr_sL, gi_sL, gi_sR, gl_sI, gl_sR, sz_sI, sz_sL, sz_sR, gi_sI, gl_sL, gr_sR, nar20, nar22_0, nar22_1, narb0, narb1, nI_clamp, zin_nI, nI_leI, nI_ltI, nI_eq, nI_add, nI_mul, nI_sub, nI_dec, nI_lt0, nI_0le, neg1_lt, neg1_le, neg1_ne, neg1_ne2, reduceIte, eq_self, ite_true, ite_false, true_and, and_true, or_true, true_or, and_self, Nat.reduceEqDiff, Nat.reduceAdd, Nat.reduceMul, Nat.reduceSub, Nat.add_zero, Nat.zero_add, bh_mk, bc_mk, bn_mk, bo_mk, bO_mk, bF_mk, bL_mk, bT_mk, if_pos, if_neg, ng_lt, ng_le, ng_lt2, ng_le2, ng_eq, ng_eq2, ng_nn, ng_dec, ng_dec0, sb_nle, sb_nlt, bI_0, bI_1, bI_t, bI_f, bI_nar, bitW_e, and_false, false_and, Nat.add_sub_cancel, if_false, if_true, c_0, c_1, c_2, c_3, c_4, c_5, c_6, c_7, c_8, c_9, c_10, c_11, c_12, c_13, c_16, c_17, c_20, c_24, c_28, c_36, c_37, c_39, c_40, c_41, c_42, c_43, c_45, c_47, c_48, c_49, c_57, c_59, c_60, c_61, c_62, c_80, c_81, c_97, c_99, c_100, c_104, c_107, c_109, c_115, c_116, c_120, c_216, c_217, c_255, c_256, c_1000, c_2000, c_9999, c_1000000, s02, f_X12_need, f_X12_need_16, e_passN s02 hD2 a3 (by omega) w (by omega) h41', a3, e_fault1 s02 w]
            rw [zW_some]
            refine ⟨(J0.trans J).setI' ⟨rfl, Or.inr rfl⟩, Or.inr ⟨p', a2, by rw [gi_sI, if_pos ⟨rfl, rfl⟩], ?_⟩⟩
            exact fl_par2 hd4 hpar.1 hpar.2 a4 a2 (fun h => ⟨h41' h, hD.vis p'⟩) (a5.2 (by omega)) (a5.1 (by omega))
        · simp (disch := omega) only [Option.bind_some, Option.map_some, Option.bind_none, Option.bind_fun_none, zrdI, zrdR, zwrI, zwrR, zwrZ, zvs, zald, zast, zlald, zlast, zaald, zlen, sh_sI, sh_sL, sh_sR, gr_sI, gr_sL, gi_sL, gi_sR, gl_sI, gl_sR, sz_sI, sz_sL, sz_sR, gi_sI, gl_sL, gr_sR, nar20, nar22_0, nar22_1, narb0, narb1, nI_clamp, zin_nI, nI_leI, nI_ltI, nI_eq, nI_add, nI_mul, nI_sub, nI_dec, nI_lt0, nI_0le, neg1_lt, neg1_le, neg1_ne, neg1_ne2, reduceIte, eq_self, ite_true, ite_false, true_and, and_true, or_true, true_or, and_self, Nat.reduceEqDiff, Nat.reduceAdd, Nat.reduceMul, Nat.reduceSub, Nat.add_zero, Nat.zero_add, bh_mk, bc_mk, bn_mk, bo_mk, bO_mk, bF_mk, bL_mk, bT_mk, if_pos, if_neg, ng_lt, ng_le, ng_lt2, ng_le2, ng_eq, ng_eq2, ng_nn, ng_dec, ng_dec0, sb_nle, sb_nlt, bI_0, bI_1, bI_t, bI_f, bI_nar, bitW_e, and_false, false_and, Nat.add_sub_cancel, if_false, if_true, c_0, c_1, c_2, c_3, c_4, c_5, c_6, c_7, c_8, c_9, c_10, c_11, c_12, c_13, c_16, c_17, c_20, c_24, c_28, c_36, c_37, c_39, c_40, c_41, c_42, c_43, c_45, c_47, c_48, c_49, c_57, c_59, c_60, c_61, c_62, c_80, c_81, c_97, c_99, c_100, c_104, c_107, c_109, c_115, c_116, c_120, c_216, c_217, c_255, c_256, c_1000, c_2000, c_9999, c_1000000, s02, f_X12_need, f_X12_need_16, e_pass0 s02 b2 (by omega), e_fault0 s02 b2 (by omega)]
          rw [zW_some]
          exact ⟨J0.trans J, Or.inr ⟨e, b1, b2, fl_par hd4 hpar.1 hpar.2 b3⟩⟩
      · rw [if_pos (show (4 : Int32) ≤ nI deep from nI_le (a := 4) (by omega) (by omega))]
        exact q_thing67 hN hG hp hw h1 hd h45 (fun _ _ => by omega)
    · rw [if_neg (fun x => hpar ((hr_eq (hD.vis p) (by omega)).mp x))]
      exact q_thing67 hN hG hp hw h1 hd h45 (fun h x => absurd ⟨h, x⟩ hpar)
theorem q_product (hN : 10000 ≤ N) (hF : PIH m u n l t ak F fuel) {g : ZS} {deep p : Nat} (hd : deep ≤ 4) (h1 : p ≤ (l.take t).length) (hf : ((l.take t).length - p) + 4 * (4 - deep) + 2 ≤ fuel + 1) (hG : PG g m u n l t ak) (hp : zgi g m 14 = nI p) (hw : zgi g m 15 = -nI 1) : zW (f_X12_product F N m (nI deep) g) (PPost m (l.take t) 2 deep p ak g) := by
  have hL := L80 hG
  obtain ⟨s0, hD, hmu, r21, s11, hak⟩ := id hG
  have ar : ∀ q, p < q → q < (l.take t).length → ((l.take t).length - (q + 1)) + 4 * (4 - deep) + (4 - 3) ≤ fuel := fun q _ _ => by omega
  unfold f_X12_product
  rw [p_vs s0]
  have key : ∀ k x g', (zJ (SA m) g g' ∧ ((zgi g' m 15 = -nI 1 ∧ ∃ q code, p < q ∧ q ≤ (l.take t).length ∧ zgi g' m 14 = nI q ∧ SimB (l.take t) 2 deep p q code ∧ True ∧ evIs ak code x ∧ k = (l.take t).length - q + 1) ∨ (∃ e, e ≤ (l.take t).length ∧ zgi g' m 15 = nI e ∧ Fl (l.take t) 2 deep p e ∧ k = 0))) → k < N → zW (zloop (fun s => f_X12_product_6 F N m (nI deep) s.1 s.2) N (x, g')) (PPost m (l.take t) 2 deep p ak g) := by
    intro k x g' hI hk
    refine zW_while (fun k (s : Int32 × ZS) => zJ (SA m) g s.2 ∧ ((zgi s.2 m 15 = -nI 1 ∧ ∃ q code, p < q ∧ q ≤ (l.take t).length ∧ zgi s.2 m 14 = nI q ∧ SimB (l.take t) 2 deep p q code ∧ True ∧ evIs ak code s.1 ∧ k = (l.take t).length - q + 1) ∨ (∃ e, e ≤ (l.take t).length ∧ zgi s.2 m 15 = nI e ∧ Fl (l.take t) 2 deep p e ∧ k = 0))) (fun k s hI => ?_) k N (x, g') hk hI
    obtain ⟨x, g'⟩ := s
    obtain ⟨J', hI⟩ := hI
    have hG' := hG.J J'
    obtain ⟨s0', hD', -, -⟩ := id hG'
    show zW (f_X12_product_6 F N m (nI deep) x g') _
    unfold f_X12_product_6 f_X12_product_91
    rcases hI with ⟨w, q, code, a1, a2, a3, a4, aP, a5, rfl⟩ | ⟨e, b1, b2, b3, rfl⟩
    · rw [p_vs s0', e_fine1 s0' w, Option.bind_some, if_neg (nI_ne0 (by omega) (by omega)), p_vs s0', e_here s0' hD' a3 (by omega), Option.bind_some, c_42, c_47]
      have J1 : zJ (SA m) g' (zsetI g' m 14 (nI (q + 1))) := zJ.setI ⟨rfl, Or.inl rfl⟩
      have go : ∀ (c : Nat) (z : Int32) , (c = 42 ∧ z = nI 1 ∨ c = 47 ∧ z = nI 0) → q < (l.take t).length → (l.take t).getD q 0 = c → zW (f_X12_product_45 F N m (nI deep) x z g') (zI (fun s' => ∃ k', k' < (l.take t).length - q + 1 ∧ zJ (SA m) g s'.2 ∧ ((zgi s'.2 m 15 = -nI 1 ∧ ∃ q code, p < q ∧ q ≤ (l.take t).length ∧ zgi s'.2 m 14 = nI q ∧ SimB (l.take t) 2 deep p q code ∧ True ∧ evIs ak code s'.1 ∧ k' = (l.take t).length - q + 1) ∨ (∃ e, e ≤ (l.take t).length ∧ zgi s'.2 m 15 = nI e ∧ Fl (l.take t) 2 deep p e ∧ k' = 0))) (PPost m (l.take t) 2 deep p ak g)) := by
        intro c z hcz hq hc
        have hrk : rkO ((l.take t).getD q 0) = 2 + 1 := by rw [hc]; rcases hcz with ⟨rfl, _⟩ | ⟨rfl, _⟩ <;> decide
        unfold f_X12_product_45
        rw [p_rdI s0', Option.bind_some, a3, c_1, nI_add, p_wrI s0', Option.bind_some, p_vs (by rw [sh_sI]; exact s0')]
        refine (hF 3 deep (q + 1) _ (by omega) hd (by omega) (ar q a1 hq) (hG'.J J1) (by rw [gi_sI, if_pos ⟨rfl, rfl⟩]) (by rw [gi_sI, if_neg (by omega)]; exact w)).bind (fun o ho => ?_)
        obtain ⟨y, g2⟩ := o
        obtain ⟨J2, ho⟩ := ho
        have val : (if z = 0 then (if y = 0 then f_X12_product_87 F N m (nI deep) (0 : Int32) g2 else if y = 0 then none else f_X12_product_87 F N m (nI deep) (x / y) g2) else f_X12_product_87 F N m (nI deep) (x * y) g2) = some (Sum.inl (jn c x y, g2)) := by
          unfold f_X12_product_87 jn
          rcases hcz with ⟨rfl, rfl⟩ | ⟨rfl, rfl⟩
          · rw [if_neg (nI_ne0 (by omega) (by omega)), if_pos rfl]
          · rw [if_pos (show nI 0 = 0 from rfl)]
            by_cases hy : y = 0
            · rw [if_pos hy]
              simp only [Nat.reduceEqDiff, if_false, if_pos hy]
              rfl
            · rw [if_neg hy, if_neg hy]
              simp only [Nat.reduceEqDiff, if_false, if_neg hy]
        have h0 : zW (some (Sum.inl (jn c x y, g2)) : Option ((Int32 × ZS) ⊕ (Int32 × ZS))) (zI (fun s' => ∃ k', k' < (l.take t).length - q + 1 ∧ zJ (SA m) g s'.2 ∧ ((zgi s'.2 m 15 = -nI 1 ∧ ∃ q code, p < q ∧ q ≤ (l.take t).length ∧ zgi s'.2 m 14 = nI q ∧ SimB (l.take t) 2 deep p q code ∧ True ∧ evIs ak code s'.1 ∧ k' = (l.take t).length - q + 1) ∨ (∃ e, e ≤ (l.take t).length ∧ zgi s'.2 m 15 = nI e ∧ Fl (l.take t) 2 deep p e ∧ k' = 0))) (PPost m (l.take t) 2 deep p ak g)) := by
          rw [zW_some, zI_inl]
          rcases ho with ⟨w2, p', code2, d1, d2, d3, d4, d5, d6⟩ | ⟨e, d1, d2, d3⟩
          · refine ⟨(l.take t).length - p' + 1, by omega, (J'.trans J1).trans J2, Or.inl ⟨w2, p', code ++ code2 ++ [2000 + (l.take t).getD q 0], by omega, d2, d3, sim_op (by omega) a4 hq hrk d4, trivial, ?_, rfl⟩⟩
            rw [hc]
            exact ev_op a5 d6 (by rw [hc] at hrk; omega) (by rcases hcz with ⟨rfl, _⟩ | ⟨rfl, _⟩ <;> omega)
          · exact ⟨0, by omega, (J'.trans J1).trans J2, Or.inr ⟨e, d1, d2, fl_op (by omega) a4 hq hrk d3, rfl⟩⟩
        rw [← val] at h0
        exact h0
      by_cases hA : q < (l.take t).length ∧ (l.take t).getD q 0 = 42
      · have hh := (hr_eq (hD'.vis q) (by omega)).mpr hA
        rw [if_pos hh]
        unfold f_X12_product_31
        rw [p_vs s0', e_here s0' hD' a3 (by omega), Option.bind_some, c_42, if_pos hh, c_1]
        exact go 42 (nI 1) (Or.inl ⟨rfl, rfl⟩) hA.1 hA.2
      · have hnA : ¬ hr (l.take t) q = nI 42 := fun x => hA ((hr_eq (hD'.vis q) (by omega)).mp x)
        rw [if_neg hnA, p_vs s0', Option.bind_some]
        by_cases hB : q < (l.take t).length ∧ (l.take t).getD q 0 = 47
        · rw [if_pos ((hr_eq (hD'.vis q) (by omega)).mpr hB)]
          unfold f_X12_product_31
          rw [p_vs s0', e_here s0' hD' a3 (by omega), Option.bind_some, c_42, if_neg hnA, c_0]
          exact go 47 (nI 0) (Or.inr ⟨rfl, rfl⟩) hB.1 hB.2
        · rw [if_neg (fun x => hB ((hr_eq (hD'.vis q) (by omega)).mp x)), Option.map_some, zW_some, zI_inr]
          refine ⟨J', Or.inl ⟨w, q, code, a1, a2, a3, a4, ⟨fun _ h => (rk_3 h).2.elim (fun h' => hA ⟨(rk_3 h).1, h'⟩) (fun h' => hB ⟨(rk_3 h).1, h'⟩), fun h => absurd h (by omega)⟩, a5⟩⟩
    · rw [p_vs s0', e_fine0 s0' b2 (by omega), Option.bind_some, if_pos (show nI 0 = 0 from rfl), Option.map_some, zW_some, zI_inr]
      exact ⟨J', Or.inr ⟨e, b1, b2, b3⟩⟩
  refine (hF 3 deep p g (by omega) hd h1 (by omega) hG hp hw).bind (fun o ho => ?_)
  obtain ⟨x0, g0⟩ := o
  obtain ⟨J, ho⟩ := ho
  rcases ho with ⟨w, p', code, a1, a2, a3, a4, a5, a6⟩ | ⟨e, b1, b2, b3⟩
  · exact key ((l.take t).length - p' + 1) x0 g0 ⟨J, Or.inl ⟨w, p', code, a1, a2, a3, SimB.down (s := 2) (s' := 3) a4 (by omega), trivial, a6, rfl⟩⟩ (by omega)
  · exact key 0 x0 g0 ⟨J, Or.inr ⟨e, b1, b2, Fl.down (s := 2) (s' := 3) b3 (by omega), rfl⟩⟩ (by omega)
theorem q_sum (hN : 10000 ≤ N) (hF : PIH m u n l t ak F fuel) {g : ZS} {deep p : Nat} (hd : deep ≤ 4) (h1 : p ≤ (l.take t).length) (hf : ((l.take t).length - p) + 4 * (4 - deep) + 3 ≤ fuel + 1) (hG : PG g m u n l t ak) (hp : zgi g m 14 = nI p) (hw : zgi g m 15 = -nI 1) : zW (f_X12_sum F N m (nI deep) g) (PPost m (l.take t) 1 deep p ak g) := by
  have hL := L80 hG
  obtain ⟨s0, hD, hmu, r21, s11, hak⟩ := id hG
  have ar : ∀ q, p < q → q < (l.take t).length → ((l.take t).length - (q + 1)) + 4 * (4 - deep) + (4 - 2) ≤ fuel := fun q _ _ => by omega
  unfold f_X12_sum
  rw [p_vs s0]
  have key : ∀ k x g', (zJ (SA m) g g' ∧ ((zgi g' m 15 = -nI 1 ∧ ∃ q code, p < q ∧ q ≤ (l.take t).length ∧ zgi g' m 14 = nI q ∧ SimB (l.take t) 1 deep p q code ∧ rk (l.take t) q ≠ 3 ∧ evIs ak code x ∧ k = (l.take t).length - q + 1) ∨ (∃ e, e ≤ (l.take t).length ∧ zgi g' m 15 = nI e ∧ Fl (l.take t) 1 deep p e ∧ k = 0))) → k < N → zW (zloop (fun s => f_X12_sum_6 F N m (nI deep) s.1 s.2) N (x, g')) (PPost m (l.take t) 1 deep p ak g) := by
    intro k x g' hI hk
    refine zW_while (fun k (s : Int32 × ZS) => zJ (SA m) g s.2 ∧ ((zgi s.2 m 15 = -nI 1 ∧ ∃ q code, p < q ∧ q ≤ (l.take t).length ∧ zgi s.2 m 14 = nI q ∧ SimB (l.take t) 1 deep p q code ∧ rk (l.take t) q ≠ 3 ∧ evIs ak code s.1 ∧ k = (l.take t).length - q + 1) ∨ (∃ e, e ≤ (l.take t).length ∧ zgi s.2 m 15 = nI e ∧ Fl (l.take t) 1 deep p e ∧ k = 0))) (fun k s hI => ?_) k N (x, g') hk hI
    obtain ⟨x, g'⟩ := s
    obtain ⟨J', hI⟩ := hI
    have hG' := hG.J J'
    obtain ⟨s0', hD', -, -⟩ := id hG'
    show zW (f_X12_sum_6 F N m (nI deep) x g') _
    unfold f_X12_sum_6 f_X12_sum_82
    rcases hI with ⟨w, q, code, a1, a2, a3, a4, aP, a5, rfl⟩ | ⟨e, b1, b2, b3, rfl⟩
    · rw [p_vs s0', e_fine1 s0' w, Option.bind_some, if_neg (nI_ne0 (by omega) (by omega)), p_vs s0', e_here s0' hD' a3 (by omega), Option.bind_some, c_43, c_45]
      have J1 : zJ (SA m) g' (zsetI g' m 14 (nI (q + 1))) := zJ.setI ⟨rfl, Or.inl rfl⟩
      have go : ∀ (c : Nat) (z : Int32) , (c = 43 ∧ z = nI 1 ∨ c = 45 ∧ z = nI 0) → q < (l.take t).length → (l.take t).getD q 0 = c → zW (f_X12_sum_45 F N m (nI deep) x z g') (zI (fun s' => ∃ k', k' < (l.take t).length - q + 1 ∧ zJ (SA m) g s'.2 ∧ ((zgi s'.2 m 15 = -nI 1 ∧ ∃ q code, p < q ∧ q ≤ (l.take t).length ∧ zgi s'.2 m 14 = nI q ∧ SimB (l.take t) 1 deep p q code ∧ rk (l.take t) q ≠ 3 ∧ evIs ak code s'.1 ∧ k' = (l.take t).length - q + 1) ∨ (∃ e, e ≤ (l.take t).length ∧ zgi s'.2 m 15 = nI e ∧ Fl (l.take t) 1 deep p e ∧ k' = 0))) (PPost m (l.take t) 1 deep p ak g)) := by
        intro c z hcz hq hc
        have hrk : rkO ((l.take t).getD q 0) = 1 + 1 := by rw [hc]; rcases hcz with ⟨rfl, _⟩ | ⟨rfl, _⟩ <;> decide
        unfold f_X12_sum_45
        rw [p_rdI s0', Option.bind_some, a3, c_1, nI_add, p_wrI s0', Option.bind_some, p_vs (by rw [sh_sI]; exact s0')]
        refine (hF 2 deep (q + 1) _ (by omega) hd (by omega) (ar q a1 hq) (hG'.J J1) (by rw [gi_sI, if_pos ⟨rfl, rfl⟩]) (by rw [gi_sI, if_neg (by omega)]; exact w)).bind (fun o ho => ?_)
        obtain ⟨y, g2⟩ := o
        obtain ⟨J2, ho⟩ := ho
        have val : (if z = 0 then f_X12_sum_78 F N m (nI deep) (x - y) g2 else f_X12_sum_78 F N m (nI deep) (x + y) g2) = some (Sum.inl (jn c x y, g2)) := by
          unfold f_X12_sum_78 jn
          rcases hcz with ⟨rfl, rfl⟩ | ⟨rfl, rfl⟩
          · rw [if_neg (nI_ne0 (by omega) (by omega)), if_neg (by omega), if_pos rfl]
          · rw [if_pos (show nI 0 = 0 from rfl), if_neg (by omega), if_neg (by omega), if_pos rfl]
        have h0 : zW (some (Sum.inl (jn c x y, g2)) : Option ((Int32 × ZS) ⊕ (Int32 × ZS))) (zI (fun s' => ∃ k', k' < (l.take t).length - q + 1 ∧ zJ (SA m) g s'.2 ∧ ((zgi s'.2 m 15 = -nI 1 ∧ ∃ q code, p < q ∧ q ≤ (l.take t).length ∧ zgi s'.2 m 14 = nI q ∧ SimB (l.take t) 1 deep p q code ∧ rk (l.take t) q ≠ 3 ∧ evIs ak code s'.1 ∧ k' = (l.take t).length - q + 1) ∨ (∃ e, e ≤ (l.take t).length ∧ zgi s'.2 m 15 = nI e ∧ Fl (l.take t) 1 deep p e ∧ k' = 0))) (PPost m (l.take t) 1 deep p ak g)) := by
          rw [zW_some, zI_inl]
          rcases ho with ⟨w2, p', code2, d1, d2, d3, d4, d5, d6⟩ | ⟨e, d1, d2, d3⟩
          · refine ⟨(l.take t).length - p' + 1, by omega, (J'.trans J1).trans J2, Or.inl ⟨w2, p', code ++ code2 ++ [2000 + (l.take t).getD q 0], by omega, d2, d3, sim_op (by omega) a4 hq hrk d4, d5.1 (by omega), ?_, rfl⟩⟩
            rw [hc]
            exact ev_op a5 d6 (by rw [hc] at hrk; omega) (by rcases hcz with ⟨rfl, _⟩ | ⟨rfl, _⟩ <;> omega)
          · exact ⟨0, by omega, (J'.trans J1).trans J2, Or.inr ⟨e, d1, d2, fl_op (by omega) a4 hq hrk d3, rfl⟩⟩
        rw [← val] at h0
        exact h0
      by_cases hA : q < (l.take t).length ∧ (l.take t).getD q 0 = 43
      · have hh := (hr_eq (hD'.vis q) (by omega)).mpr hA
        rw [if_pos hh]
        unfold f_X12_sum_31
        rw [p_vs s0', e_here s0' hD' a3 (by omega), Option.bind_some, c_43, if_pos hh, c_1]
        exact go 43 (nI 1) (Or.inl ⟨rfl, rfl⟩) hA.1 hA.2
      · have hnA : ¬ hr (l.take t) q = nI 43 := fun x => hA ((hr_eq (hD'.vis q) (by omega)).mp x)
        rw [if_neg hnA, p_vs s0', Option.bind_some]
        by_cases hB : q < (l.take t).length ∧ (l.take t).getD q 0 = 45
        · rw [if_pos ((hr_eq (hD'.vis q) (by omega)).mpr hB)]
          unfold f_X12_sum_31
          rw [p_vs s0', e_here s0' hD' a3 (by omega), Option.bind_some, c_43, if_neg hnA, c_0]
          exact go 45 (nI 0) (Or.inr ⟨rfl, rfl⟩) hB.1 hB.2
        · rw [if_neg (fun x => hB ((hr_eq (hD'.vis q) (by omega)).mp x)), Option.map_some, zW_some, zI_inr]
          refine ⟨J', Or.inl ⟨w, q, code, a1, a2, a3, a4, ⟨fun _ => aP, fun _ h => (rk_2 h).2.elim (fun h' => hA ⟨(rk_2 h).1, h'⟩) (fun h' => hB ⟨(rk_2 h).1, h'⟩)⟩, a5⟩⟩
    · rw [p_vs s0', e_fine0 s0' b2 (by omega), Option.bind_some, if_pos (show nI 0 = 0 from rfl), Option.map_some, zW_some, zI_inr]
      exact ⟨J', Or.inr ⟨e, b1, b2, b3⟩⟩
  refine (hF 2 deep p g (by omega) hd h1 (by omega) hG hp hw).bind (fun o ho => ?_)
  obtain ⟨x0, g0⟩ := o
  obtain ⟨J, ho⟩ := ho
  rcases ho with ⟨w, p', code, a1, a2, a3, a4, a5, a6⟩ | ⟨e, b1, b2, b3⟩
  · exact key ((l.take t).length - p' + 1) x0 g0 ⟨J, Or.inl ⟨w, p', code, a1, a2, a3, SimB.down (s := 1) (s' := 2) a4 (by omega), a5.1 (by omega), a6, rfl⟩⟩ (by omega)
  · exact key 0 x0 g0 ⟨J, Or.inr ⟨e, b1, b2, Fl.down (s := 1) (s' := 2) b3 (by omega), rfl⟩⟩ (by omega)
theorem q_held (hF : PIH m u n l t ak F fuel) {g : ZS} {deep p : Nat} (hd : deep ≤ 4) (h1 : p ≤ (l.take t).length) (hf : ((l.take t).length - p) + 4 * (4 - deep) + 4 ≤ fuel + 1) (hG : PG g m u n l t ak) (hp : zgi g m 14 = nI p) (hw : zgi g m 15 = -nI 1) : zW (f_X12_held F N m (nI deep) g) (PPost m (l.take t) 0 deep p ak g) := by
  have hL := L80 hG
  obtain ⟨s0, hD, hmu, r21, s11, hak⟩ := id hG
  unfold f_X12_held
  rw [p_vs s0]
  refine (hF 1 deep p g (by omega) hd h1 (by omega) hG hp hw).bind (fun o ho => ?_)
  obtain ⟨x, g0⟩ := o
  obtain ⟨J, ho⟩ := ho
  dsimp only at J ho
  have hG0 := hG.J J
  obtain ⟨s00, hD0, -, -⟩ := id hG0
  rcases ho with ⟨w, q, code, a1, a2, a3, a4, a5, a6⟩ | ⟨e, b1, b2, b3⟩
  · have J1 : zJ (SA m) g0 (zsetI g0 m 14 (nI (q + 1))) := zJ.setI ⟨rfl, Or.inl rfl⟩
    have go : ∀ (c : Nat), (c = 60 ∨ c = 61 ∨ c = 62) → q < (l.take t).length → (l.take t).getD q 0 = c → zW (F 1 m (nI deep) (zsetI g0 m 14 (nI (q + 1)))) (fun o => PPost m (l.take t) 0 deep p ak g (jn c x o.1, o.2)) := by
      intro c hc1 hq hc
      have hrk : rkO ((l.take t).getD q 0) = 1 := by rw [hc]; rcases hc1 with rfl | rfl | rfl <;> decide
      refine (hF 1 deep (q + 1) _ (by omega) hd (by omega) (by omega) (hG0.J J1) (by rw [gi_sI, if_pos ⟨rfl, rfl⟩]) (by rw [gi_sI, if_neg (by omega)]; exact w)).mono (fun o ho => ?_)
      obtain ⟨y, g2⟩ := o
      obtain ⟨J2, ho⟩ := ho
      refine ⟨(J.trans J1).trans J2, ?_⟩
      rcases ho with ⟨w2, p', code2, d1, d2, d3, d4, d5, d6⟩ | ⟨e, d1, d2, d3⟩
      · refine Or.inl ⟨w2, p', code ++ code2 ++ [2000 + (l.take t).getD q 0], by omega, d2, d3, sim_cmp a4 hq hrk d4, ⟨fun _ => d5.1 (by omega), fun _ => d5.2 (by omega)⟩, ?_⟩
        rw [hc]
        exact ev_op a6 d6 (by rw [hc] at hrk; omega) (by omega)
      · exact Or.inr ⟨e, d1, d2, fl_cmp a4 hq hrk d3⟩
    have sG : zsh (zsetI g0 m 14 (nI (q + 1))) m = some (12, 0) := s00
    by_cases h60 : q < (l.take t).length ∧ (l.take t).getD q 0 = 60
    · have g1 := go 60 (Or.inl rfl) h60.1 h60.2
      simp (disch := omega) only [Option.bind_some, Option.map_some, Option.bind_none, Option.bind_fun_none, zrdI, zrdR, zwrI, zwrR, zwrZ, zvs, zald, zast, zlald, zlast, zaald, zlen, sh_sI, sh_sL, sh_sR, gr_sI, gr_sL, gi_sL, gi_sR, gl_sI, gl_sR, sz_sI, sz_sL, sz_sR, gi_sI, gl_sL, gr_sR, nar20, nar22_0, nar22_1, narb0, narb1, nI_clamp, zin_nI, nI_leI, nI_ltI, nI_eq, nI_add, nI_mul, nI_sub, nI_dec, nI_lt0, nI_0le, neg1_lt, neg1_le, neg1_ne, neg1_ne2, reduceIte, eq_self, ite_true, ite_false, true_and, and_true, or_true, true_or, and_self, Nat.reduceEqDiff, Nat.reduceAdd, Nat.reduceMul, Nat.reduceSub, Nat.add_zero, Nat.zero_add, bh_mk, bc_mk, bn_mk, bo_mk, bO_mk, bF_mk, bL_mk, bT_mk, if_pos, if_neg, ng_lt, ng_le, ng_lt2, ng_le2, ng_eq, ng_eq2, ng_nn, ng_dec, ng_dec0, sb_nle, sb_nlt, bI_0, bI_1, bI_t, bI_f, bI_nar, bitW_e, and_false, false_and, Nat.add_sub_cancel, if_false, if_true, c_0, c_1, c_2, c_3, c_4, c_5, c_6, c_7, c_8, c_9, c_10, c_11, c_12, c_13, c_16, c_17, c_20, c_24, c_28, c_36, c_37, c_39, c_40, c_41, c_42, c_43, c_45, c_47, c_48, c_49, c_57, c_59, c_60, c_61, c_62, c_80, c_81, c_97, c_99, c_100, c_104, c_107, c_109, c_115, c_116, c_120, c_216, c_217, c_255, c_256, c_1000, c_2000, c_9999, c_1000000, s00, e_passY s00 hD0 a3 w (by omega) h60.1 h60.2]
      refine g1.bind (fun o ho => ?_)
      unfold f_X12_held_29
      have e : jn 60 x o.1 = if o.1 ≤ x then nI 0 else nI 1 := rfl
      rw [e] at ho
      by_cases c : o.1 ≤ x
      · rw [if_pos c] at ho ⊢; exact zW_some.mpr ho
      · rw [if_neg c] at ho ⊢; exact zW_some.mpr ho
    · have n60 : q < (l.take t).length → (l.take t).getD q 0 ≠ 60 := fun h x => h60 ⟨h, x⟩
      by_cases h62 : q < (l.take t).length ∧ (l.take t).getD q 0 = 62
      · have g1 := go 62 (Or.inr (Or.inr rfl)) h62.1 h62.2
        simp (disch := omega) only [Option.bind_some, Option.map_some, Option.bind_none, Option.bind_fun_none, zrdI, zrdR, zwrI, zwrR, zwrZ, zvs, zald, zast, zlald, zlast, zaald, zlen, sh_sI, sh_sL, sh_sR, gr_sI, gr_sL, gi_sL, gi_sR, gl_sI, gl_sR, sz_sI, sz_sL, sz_sR, gi_sI, gl_sL, gr_sR, nar20, nar22_0, nar22_1, narb0, narb1, nI_clamp, zin_nI, nI_leI, nI_ltI, nI_eq, nI_add, nI_mul, nI_sub, nI_dec, nI_lt0, nI_0le, neg1_lt, neg1_le, neg1_ne, neg1_ne2, reduceIte, eq_self, ite_true, ite_false, true_and, and_true, or_true, true_or, and_self, Nat.reduceEqDiff, Nat.reduceAdd, Nat.reduceMul, Nat.reduceSub, Nat.add_zero, Nat.zero_add, bh_mk, bc_mk, bn_mk, bo_mk, bO_mk, bF_mk, bL_mk, bT_mk, if_pos, if_neg, ng_lt, ng_le, ng_lt2, ng_le2, ng_eq, ng_eq2, ng_nn, ng_dec, ng_dec0, sb_nle, sb_nlt, bI_0, bI_1, bI_t, bI_f, bI_nar, bitW_e, and_false, false_and, Nat.add_sub_cancel, if_false, if_true, c_0, c_1, c_2, c_3, c_4, c_5, c_6, c_7, c_8, c_9, c_10, c_11, c_12, c_13, c_16, c_17, c_20, c_24, c_28, c_36, c_37, c_39, c_40, c_41, c_42, c_43, c_45, c_47, c_48, c_49, c_57, c_59, c_60, c_61, c_62, c_80, c_81, c_97, c_99, c_100, c_104, c_107, c_109, c_115, c_116, c_120, c_216, c_217, c_255, c_256, c_1000, c_2000, c_9999, c_1000000, s00, e_passN s00 hD0 a3 (by omega) w (by omega) n60, e_passY s00 hD0 a3 w (by omega) h62.1 h62.2]
        refine g1.bind (fun o ho => ?_)
        unfold f_X12_held_53
        have e : jn 62 x o.1 = if x ≤ o.1 then nI 0 else nI 1 := rfl
        rw [e] at ho
        by_cases c : x ≤ o.1
        · rw [if_pos c] at ho ⊢; exact zW_some.mpr ho
        · rw [if_neg c] at ho ⊢; exact zW_some.mpr ho
      · have n62 : q < (l.take t).length → (l.take t).getD q 0 ≠ 62 := fun h x => h62 ⟨h, x⟩
        by_cases h61 : q < (l.take t).length ∧ (l.take t).getD q 0 = 61
        · have g1 := go 61 (Or.inr (Or.inl rfl)) h61.1 h61.2
          simp (disch := omega) only [Option.bind_some, Option.map_some, Option.bind_none, Option.bind_fun_none, zrdI, zrdR, zwrI, zwrR, zwrZ, zvs, zald, zast, zlald, zlast, zaald, zlen, sh_sI, sh_sL, sh_sR, gr_sI, gr_sL, gi_sL, gi_sR, gl_sI, gl_sR, sz_sI, sz_sL, sz_sR, gi_sI, gl_sL, gr_sR, nar20, nar22_0, nar22_1, narb0, narb1, nI_clamp, zin_nI, nI_leI, nI_ltI, nI_eq, nI_add, nI_mul, nI_sub, nI_dec, nI_lt0, nI_0le, neg1_lt, neg1_le, neg1_ne, neg1_ne2, reduceIte, eq_self, ite_true, ite_false, true_and, and_true, or_true, true_or, and_self, Nat.reduceEqDiff, Nat.reduceAdd, Nat.reduceMul, Nat.reduceSub, Nat.add_zero, Nat.zero_add, bh_mk, bc_mk, bn_mk, bo_mk, bO_mk, bF_mk, bL_mk, bT_mk, if_pos, if_neg, ng_lt, ng_le, ng_lt2, ng_le2, ng_eq, ng_eq2, ng_nn, ng_dec, ng_dec0, sb_nle, sb_nlt, bI_0, bI_1, bI_t, bI_f, bI_nar, bitW_e, and_false, false_and, Nat.add_sub_cancel, if_false, if_true, c_0, c_1, c_2, c_3, c_4, c_5, c_6, c_7, c_8, c_9, c_10, c_11, c_12, c_13, c_16, c_17, c_20, c_24, c_28, c_36, c_37, c_39, c_40, c_41, c_42, c_43, c_45, c_47, c_48, c_49, c_57, c_59, c_60, c_61, c_62, c_80, c_81, c_97, c_99, c_100, c_104, c_107, c_109, c_115, c_116, c_120, c_216, c_217, c_255, c_256, c_1000, c_2000, c_9999, c_1000000, s00, e_passN s00 hD0 a3 (by omega) w (by omega) n60, e_passN s00 hD0 a3 (by omega) w (by omega) n62, e_passY s00 hD0 a3 w (by omega) h61.1 h61.2]
          refine g1.bind (fun o ho => ?_)
          unfold f_X12_held_77
          have e : jn 61 x o.1 = if x = o.1 then nI 1 else nI 0 := rfl
          rw [e] at ho
          by_cases c : x = o.1
          · rw [if_pos c] at ho ⊢; exact zW_some.mpr ho
          · rw [if_neg c] at ho ⊢; exact zW_some.mpr ho
        · have n61 : q < (l.take t).length → (l.take t).getD q 0 ≠ 61 := fun h x => h61 ⟨h, x⟩
          simp (disch := omega) only [Option.bind_some, Option.map_some, Option.bind_none, Option.bind_fun_none, zrdI, zrdR, zwrI, zwrR, zwrZ, zvs, zald, zast, zlald, zlast, zaald, zlen, sh_sI, sh_sL, sh_sR, gr_sI, gr_sL, gi_sL, gi_sR, gl_sI, gl_sR, sz_sI, sz_sL, sz_sR, gi_sI, gl_sL, gr_sR, nar20, nar22_0, nar22_1, narb0, narb1, nI_clamp, zin_nI, nI_leI, nI_ltI, nI_eq, nI_add, nI_mul, nI_sub, nI_dec, nI_lt0, nI_0le, neg1_lt, neg1_le, neg1_ne, neg1_ne2, reduceIte, eq_self, ite_true, ite_false, true_and, and_true, or_true, true_or, and_self, Nat.reduceEqDiff, Nat.reduceAdd, Nat.reduceMul, Nat.reduceSub, Nat.add_zero, Nat.zero_add, bh_mk, bc_mk, bn_mk, bo_mk, bO_mk, bF_mk, bL_mk, bT_mk, if_pos, if_neg, ng_lt, ng_le, ng_lt2, ng_le2, ng_eq, ng_eq2, ng_nn, ng_dec, ng_dec0, sb_nle, sb_nlt, bI_0, bI_1, bI_t, bI_f, bI_nar, bitW_e, and_false, false_and, Nat.add_sub_cancel, if_false, if_true, c_0, c_1, c_2, c_3, c_4, c_5, c_6, c_7, c_8, c_9, c_10, c_11, c_12, c_13, c_16, c_17, c_20, c_24, c_28, c_36, c_37, c_39, c_40, c_41, c_42, c_43, c_45, c_47, c_48, c_49, c_57, c_59, c_60, c_61, c_62, c_80, c_81, c_97, c_99, c_100, c_104, c_107, c_109, c_115, c_116, c_120, c_216, c_217, c_255, c_256, c_1000, c_2000, c_9999, c_1000000, s00, e_passN s00 hD0 a3 (by omega) w (by omega) n60, e_passN s00 hD0 a3 (by omega) w (by omega) n62, e_passN s00 hD0 a3 (by omega) w (by omega) n61]
          rw [zW_some]
          refine ⟨J, Or.inl ⟨w, q, code, a1, a2, a3, sim_held a4 (fun h => ?_), ⟨fun _ => a5.1 (by omega), fun _ => a5.2 (by omega)⟩, a6⟩⟩
          have := rk_1 h
          rcases this.2 with h' | h' | h'
          · exact h60 ⟨this.1, h'⟩
          · exact h61 ⟨this.1, h'⟩
          · exact h62 ⟨this.1, h'⟩
  · simp (disch := omega) only [Option.bind_some, Option.map_some, Option.bind_none, Option.bind_fun_none, zrdI, zrdR, zwrI, zwrR, zwrZ, zvs, zald, zast, zlald, zlast, zaald, zlen, sh_sI, sh_sL, sh_sR, gr_sI, gr_sL, gi_sL, gi_sR, gl_sI, gl_sR, sz_sI, sz_sL, sz_sR, gi_sI, gl_sL, gr_sR, nar20, nar22_0, nar22_1, narb0, narb1, nI_clamp, zin_nI, nI_leI, nI_ltI, nI_eq, nI_add, nI_mul, nI_sub, nI_dec, nI_lt0, nI_0le, neg1_lt, neg1_le, neg1_ne, neg1_ne2, reduceIte, eq_self, ite_true, ite_false, true_and, and_true, or_true, true_or, and_self, Nat.reduceEqDiff, Nat.reduceAdd, Nat.reduceMul, Nat.reduceSub, Nat.add_zero, Nat.zero_add, bh_mk, bc_mk, bn_mk, bo_mk, bO_mk, bF_mk, bL_mk, bT_mk, if_pos, if_neg, ng_lt, ng_le, ng_lt2, ng_le2, ng_eq, ng_eq2, ng_nn, ng_dec, ng_dec0, sb_nle, sb_nlt, bI_0, bI_1, bI_t, bI_f, bI_nar, bitW_e, and_false, false_and, Nat.add_sub_cancel, if_false, if_true, c_0, c_1, c_2, c_3, c_4, c_5, c_6, c_7, c_8, c_9, c_10, c_11, c_12, c_13, c_16, c_17, c_20, c_24, c_28, c_36, c_37, c_39, c_40, c_41, c_42, c_43, c_45, c_47, c_48, c_49, c_57, c_59, c_60, c_61, c_62, c_80, c_81, c_97, c_99, c_100, c_104, c_107, c_109, c_115, c_116, c_120, c_216, c_217, c_255, c_256, c_1000, c_2000, c_9999, c_1000000, s00, e_pass0 s00 b2 (by omega)]
    rw [zW_some]
    exact ⟨J, Or.inr ⟨e, b1, b2, fl_held b3⟩⟩
theorem q_parse (hN : 10000 ≤ N) : ∀ fuel, PIH m u n l t ak (f_grp_X12_held N fuel) fuel
  | 0 => fun s deep p g h1 h2 h3 h4 => by omega
  | fuel + 1 => fun s deep p g h1 h2 h3 h4 h5 h6 h7 => by
    have ih := q_parse hN fuel
    show zW ((if s = 0 then f_X12_held (f_grp_X12_held N fuel) N m (nI deep) g else if s = 1 then f_X12_sum (f_grp_X12_held N fuel) N m (nI deep) g else if s = 2 then f_X12_product (f_grp_X12_held N fuel) N m (nI deep) g else f_X12_thing (f_grp_X12_held N fuel) N m (nI deep) g)) _
    rcases (show s = 0 ∨ s = 1 ∨ s = 2 ∨ s = 3 by omega) with rfl | rfl | rfl | rfl
    · rw [if_pos rfl]; exact q_held ih h2 h3 (by omega) h5 h6 h7
    · rw [if_neg (by omega), if_pos rfl]; exact q_sum hN ih h2 h3 (by omega) h5 h6 h7
    · rw [if_neg (by omega), if_neg (by omega), if_pos rfl]; exact q_product hN ih h2 h3 (by omega) h5 h6 h7
    · rw [if_neg (by omega), if_neg (by omega), if_neg (by omega)]; exact q_thing hN ih h2 h3 (by omega) h5 h6 h7
end PA
