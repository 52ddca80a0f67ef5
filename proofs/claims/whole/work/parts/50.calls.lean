/-! ===== calls ===== -/
theorem AI.mono {A : ZA} {c c' : Nat} (h : AI A c) (hc : c ≤ c') : AI A c' := by
  obtain ⟨⟨a1, a2, a3, a4⟩, a5, a6, a7, a8, a9, ⟨a10, a11⟩, ⟨a12, a13⟩, a14⟩ := h
  exact ⟨⟨a1, a2, a3, by omega⟩, a5, a6, a7, a8, a9, ⟨a10, fun i hi => ⟨(a11 i hi).1, by have := (a11 i hi).2; omega⟩⟩, ⟨a12, fun i hi u k q e => by obtain ⟨b1, b2, b3, b4, b5⟩ := a13 i hi u k q e; exact ⟨b1, b2, b3, b4, by omega⟩⟩, a14⟩
theorem AI.row {A : ZA} {c : Nat} {l : List Int64} (h : AI A c) (hl : l.length ≤ 8) : AI (sR A l) c := by
  obtain ⟨a1, a2, a3, a4, a5, a6⟩ := h
  exact ⟨a1, a2, a3, a4, hl, a6⟩
def Cc {α : Type} (x : Nat) (A' : ZA) (a : α) (g : ZS) (t : Option (α × ZS)) : Prop := zW t (fun o => o.1 = a ∧ zX x (x + 581) g o.2 ∧ CI x o.2 A')
def Rc {α : Type} (m : Nat) (A' : ZA) (a : α) (g : ZS) (t : Option (α × ZS)) : Prop := zW t (fun o => o.1 = a ∧ zX m (m + 33) g o.2 ∧ RI m o.2 A')
/-- class and reference answer alike and go on alike -/
def Call {α : Type} (fC fR : Nat → ZS → Option (α × ZS)) : Prop := ∀ (x m c : Nat) (g : ZS) (A : ZA), CI x g A → AI A c → c < 512 → ∃ (a : α) (A' : ZA), AI A' (c + 1) ∧ Cc x A' a g (fC x g) ∧ ∀ g', RI m g' A → Rc m A' a g' (fR m g')
theorem scr_in {x a j : Nat} (h : Scr x a j) : x ≤ a ∧ a < x + 581 := by
  rcases h with h | h | h | h | h | h | h | h | h <;> omega
theorem scm_in {m a j : Nat} (h : ScM m a j) : m ≤ a ∧ a < m + 33 := by
  rcases h with h | h | h | h | h | h | h | h <;> omega
def QC {α : Type} (x : Nat) (a : α) (l : List Int64) (g : ZS) (t : Option (α × ZS)) : Prop := zW t (fun o => o.1 = a ∧ zJ (Scr x) g o.2 ∧ XR o.2 (x + 3) (x + 4) l)
def QF {α : Type} (m : Nat) (a : α) (l : List Int64) (g : ZS) (t : Option (α × ZS)) : Prop := zW t (fun o => o.1 = a ∧ zM m (ScM m) g o.2 ∧ RW o.2 m l)
theorem call_q {α : Type} {fC fR : Nat → ZS → Option (α × ZS)} (h : ∀ (x m c : Nat) (g : ZS) (A : ZA), CI x g A → AI A c → c < 512 → ∃ (a : α) (l : List Int64), l.length ≤ 8 ∧ QC x a l g (fC x g) ∧ ∀ g', RI m g' A → QF m a l g' (fR m g')) : Call fC fR := by
  intro x m c g A hC hA hc
  obtain ⟨a, l, hl, h1, h2⟩ := h x m c g A hC hA hc
  refine ⟨a, sR A l, (hA.row hl).mono (Nat.le_succ c), h1.mono (fun o ho => ⟨ho.1, ho.2.1.toX (fun a j z => scr_in z), hC.1.keep hA ho.2.1 (fun _ _ z => z), ho.2.2⟩), fun g' hR => (h2 g' hR).mono (fun o ho => ⟨ho.1, ho.2.1.toX (fun a j z => scm_in z) (by omega), hR.1.keep hA ho.2.1 (fun _ _ z => z), ho.2.2⟩)⟩
/-! the class's own steps -/
section CST
variable {N x c : Nat} {g : ZS} {A : ZA} {β : Type} {Q : β → Prop}
theorem e_ip11 {v : Int32} (hC : CJ x g A) (hA : AI A c) : f_X11_isParrot x v g = some (bI (rb v 0 (an A))) := by
  unfold f_X11_isParrot
  rw [p_rdR hC.1.s0, hC.1.r0_6, Option.bind_some, p_vs hC.1.SL23.f.1, e_isIn hC.1.SL23.f.1 hC.2.2.2.2.2.1.1.1 (by have := hA.1.1; omega), Option.bind_some, if_pos bI_nar]
theorem c_bird {p : Nat} (hC : CJ x g A) (hA : AI A c) (hp : p < an A) : zgr g (x + 23 + 1) p = some (x + 23 + 2 + 5 * p) ∧ BL (zh g) (x + 23 + 2 + 5 * p) ∧ CB g (x + 23 + 2 + 5 * p) (aB A p) ∧ BI (aB A p) ∧ zgi g (x + 23 + 2 + 5 * p) 5 = nI (ame A p) ∧ 1 ≤ ame A p ∧ ame A p ≤ 8 := by
  have n6 := hA.1.1
  obtain ⟨h1, h2⟩ := hC.1.SL23.f.2.2.2 p (by omega)
  obtain ⟨h3, h4⟩ := hC.2.2.2.2.2.1.1.2.2 p hp
  exact ⟨h1, h2, h3, hA.1.2.2.1 p hp, h4, hA.1.2.1 p hp⟩
theorem sfc_scr {T a j : Nat} (hT : T = x + 480 ∨ T = x + 493) (h : SFc x T a j) : Scr x a j := by omega
/-- tongue T follows the bird p of now -/
theorem c_say {p T jT : Nat} {k : ZS → Option β} (hN : 10000 ≤ N) (hC : CJ x g A) (hA : AI A c) (hp : p < an A) (hT : jT = 12 ∧ T = x + 480 ∨ jT = 13 ∧ T = x + 493) (hk : ∀ g', zJ (SFc x T) g g' → TS g' T (sayA A (aB A p) (ame A p)) → CJ x g' A → zW (k g') Q) : zW ((zrdR g x 11 jT).bind fun v5 => (zrdR g x 11 6).bind fun v6 => (zrdR g v6 6 0).bind fun v7 => (zaald 25 g v7 (nI p)).bind fun v8 => (zrdR g x 11 4).bind fun v9 => (zrdR g x 11 3).bind fun v10 => zvs g v5 10 <| (f_X10_follow N v5 v8 v9 v10 g).bind k) Q := by
  obtain ⟨b1, b2, b3, b4, b5, b6, b7⟩ := c_bird hC hA hp
  obtain ⟨r, e1, e2, e3, e4, e5⟩ := c_rule (c := c) hC
  have n6 := hA.1.1
  have hrT : zgr g x jT = some T := by
    rcases hT with ⟨rfl, rfl⟩ | ⟨rfl, rfl⟩
    · exact hC.1.r0_12
    · exact hC.1.r0_13
  have hsT : zsh g T = some (10, 0) := by
    rcases hT with ⟨rfl, rfl⟩ | ⟨rfl, rfl⟩
    · exact hC.1.TL480.f.1
    · exact hC.1.TL493.f.1
  rw [p_rdR hC.1.s0, hrT, Option.bind_some, p_rdR hC.1.s0, hC.1.r0_6, Option.bind_some, p_rdR hC.1.SL23.f.1, hC.1.SL23.f.2.2.1, Option.bind_some, a25_6 hC.1.SL23.f.2.1 (by omega), b1, Option.bind_some, p_rdR hC.1.s0, e1, Option.bind_some, p_rdR hC.1.s0, hC.1.r0_3, Option.bind_some, p_vs hsT]
  refine (c_follow hN hC hA e1 (by omega) b2 b3 b4 b5 b7 (by omega)).bind (fun g' hg' => ?_)
  exact hk g' hg'.1 hg'.2 (hC.keep hA hg'.1 (fun a j z => sfc_scr (by omega) z))
theorem c_only {v : Int64} {k : ZS → Option β} (hC : CJ x g A) (hA : AI A c) (hk : ∀ g', zJ (SR (x + 3) (x + 4)) g g' → XR g' (x + 3) (x + 4) [v] → CJ x g' A → zW (k g') Q) : zW ((zrdR g x 11 1).bind fun v3 => zvs g v3 9 <| (f_X9_only v3 v g).bind k) Q := by
  rw [p_rdR hC.1.s0, hC.1.r0_1, Option.bind_some, p_vs hC.1.s3]
  refine (s_only ⟨hC.1.s3, hC.1.s4, hC.1.r3_0⟩).bind (fun g' hg' => hk g' hg'.1 hg'.2 (hC.keep hA hg'.1 (fun a j z => by omega)))
theorem c_pair {v w : Int64} {k : ZS → Option β} (hC : CJ x g A) (hA : AI A c) (hk : ∀ g', zJ (SR (x + 3) (x + 4)) g g' → XR g' (x + 3) (x + 4) [v, w] → CJ x g' A → zW (k g') Q) : zW ((zrdR g x 11 1).bind fun v3 => zvs g v3 9 <| (f_X9_pair v3 v w g).bind k) Q := by
  rw [p_rdR hC.1.s0, hC.1.r0_1, Option.bind_some, p_vs hC.1.s3]
  refine (s_pair ⟨hC.1.s3, hC.1.s4, hC.1.r3_0⟩).bind (fun g' hg' => hk g' hg'.1 hg'.2 (hC.keep hA hg'.1 (fun a j z => by omega)))
theorem c_tellWords {l : List Nat} (hN : 10000 ≤ N) (hC : CJ x g A) (hA : AI A c) (hT : TS g (x + 480) l) : zW (f_X11_tellWords N x g) (fun o => o.1 = nI l.length ∧ zJ (SR (x + 3) (x + 4)) g o.2 ∧ XR o.2 (x + 3) (x + 4) (l.map wL)) := by
  have hL := hC.1
  obtain ⟨t1, t2, t3⟩ := hT
  unfold f_X11_tellWords
  rw [p_rdR hL.s0, hL.r0_1, Option.bind_some, p_wrI hL.s3, Option.bind_some, c_0]
  have J0 : zJ (SR (x + 3) (x + 4)) g (zsetI g (x + 3) 1 (nI 0)) := zJ.setI (Or.inl ⟨rfl, rfl⟩)
  refine zW_forI (fun i g' => zJ (SR (x + 3) (x + 4)) g g' ∧ XR g' (x + 3) (x + 4) ((l.take i).map wL)) l.length (fun i g' hi hI => ?_) (fun g' hI => ?_) (by omega) (Nat.zero_le _) ⟨J0, XR.zero⟩
  · obtain ⟨hJ, e⟩ := hI
    have hC1 := hC.keep hA hJ (fun a j z => by omega)
    have e1 : zgi g' (x + 480) 3 = nI l.length := by rw [hJ.gi (by omega)]; exact t1
    have e2 : zgi g' (x + 480 + 1) i = nI (l.getD i 0) := by rw [hJ.gi (by omega)]; exact (t3 i hi).1
    simp (disch := omega) only [Option.bind_some, Option.map_some, Option.bind_none, Option.bind_fun_none, zrdI, zrdR, zwrI, zwrR, zwrZ, zvs, zald, zast, zlald, zlast, zaald, zlen, sh_sI, sh_sL, sh_sR, gr_sI, gr_sL, gi_sL, gi_sR, gl_sI, gl_sR, sz_sI, sz_sL, sz_sR, gi_sI, gl_sL, gr_sR, nar20, nar22_0, nar22_1, narb0, narb1, nI_clamp, zin_nI, nI_leI, nI_ltI, nI_eq, nI_add, nI_mul, nI_sub, nI_dec, nI_lt0, nI_0le, neg1_lt, neg1_le, neg1_ne, neg1_ne2, reduceIte, eq_self, ite_true, ite_false, true_and, and_true, or_true, true_or, and_self, Nat.reduceEqDiff, Nat.reduceAdd, Nat.reduceMul, Nat.reduceSub, Nat.add_zero, Nat.zero_add, bh_mk, bc_mk, bn_mk, bo_mk, bO_mk, bF_mk, bL_mk, bT_mk, if_pos, if_neg, ng_lt, ng_le, ng_lt2, ng_le2, ng_eq, ng_eq2, ng_nn, ng_dec, ng_dec0, sb_nle, sb_nlt, bI_0, bI_1, bI_t, bI_f, bI_nar, bitW_e, and_false, false_and, Nat.add_sub_cancel, if_false, if_true, c_0, c_1, c_2, c_3, c_4, c_5, c_6, c_7, c_8, c_9, c_10, c_11, c_12, c_13, c_16, c_17, c_20, c_24, c_28, c_36, c_37, c_39, c_40, c_41, c_42, c_43, c_45, c_47, c_48, c_49, c_57, c_59, c_60, c_61, c_62, c_80, c_81, c_97, c_99, c_100, c_104, c_107, c_109, c_115, c_116, c_120, c_216, c_217, c_255, c_256, c_1000, c_2000, c_9999, c_1000000, f_X11_tellWords_10, hC1.1.s0, hC1.1.r0_0, hC1.1.r0_1, hC1.1.r0_2, hC1.1.r0_3, hC1.1.r0_6, hC1.1.r0_7, hC1.1.r0_8, hC1.1.r0_9, hC1.1.r0_10, hC1.1.r0_11, hC1.1.r0_12, hC1.1.r0_13, hC1.1.r0_14, hC1.1.r0_15, hC1.1.r0_16, hC1.1.r0_17, hC1.1.s1, hC1.1.s3, hC1.1.s5, hC1.1.s12, hC1.1.s87, hC1.1.s88, hC1.1.s473, hC1.1.s474, hC1.1.s506, hC1.1.s512, hC1.1.s515, hC1.1.s516, hC1.1.r87_0, hC1.1.SL23.f.1, hC1.1.SL23.f.2.1, hC1.1.SL23.f.2.2.1, hC1.1.SL55.f.1, hC1.1.TL480.f.1, hC1.1.TL493.f.1, hC1.1.BL475.f.1, hC1.1.TL480.f.2.1, hC1.1.TL480.f.2.2.2.2.1, e1, e2]
    refine (s_add ⟨hC1.1.s3, hC1.1.s4, hC1.1.r3_0⟩ e (by rw [List.length_map, List.length_take]; omega)).bind (fun g2 h2 => ?_)
    rw [zW_some, zI_inl]
    refine ⟨rfl, hJ.trans h2.1, ?_⟩
    rw [take_succ' hi, List.map_append]
    exact h2.2
  · obtain ⟨hJ, e⟩ := hI
    have hC1 := hC.keep hA hJ (fun a j z => by omega)
    have e1 : zgi g' (x + 480) 3 = nI l.length := by rw [hJ.gi (by omega)]; exact t1
    rw [List.take_length] at e
    simp (disch := omega) only [Option.bind_some, Option.map_some, Option.bind_none, Option.bind_fun_none, zrdI, zrdR, zwrI, zwrR, zwrZ, zvs, zald, zast, zlald, zlast, zaald, zlen, sh_sI, sh_sL, sh_sR, gr_sI, gr_sL, gi_sL, gi_sR, gl_sI, gl_sR, sz_sI, sz_sL, sz_sR, gi_sI, gl_sL, gr_sR, nar20, nar22_0, nar22_1, narb0, narb1, nI_clamp, zin_nI, nI_leI, nI_ltI, nI_eq, nI_add, nI_mul, nI_sub, nI_dec, nI_lt0, nI_0le, neg1_lt, neg1_le, neg1_ne, neg1_ne2, reduceIte, eq_self, ite_true, ite_false, true_and, and_true, or_true, true_or, and_self, Nat.reduceEqDiff, Nat.reduceAdd, Nat.reduceMul, Nat.reduceSub, Nat.add_zero, Nat.zero_add, bh_mk, bc_mk, bn_mk, bo_mk, bO_mk, bF_mk, bL_mk, bT_mk, if_pos, if_neg, ng_lt, ng_le, ng_lt2, ng_le2, ng_eq, ng_eq2, ng_nn, ng_dec, ng_dec0, sb_nle, sb_nlt, bI_0, bI_1, bI_t, bI_f, bI_nar, bitW_e, and_false, false_and, Nat.add_sub_cancel, if_false, if_true, c_0, c_1, c_2, c_3, c_4, c_5, c_6, c_7, c_8, c_9, c_10, c_11, c_12, c_13, c_16, c_17, c_20, c_24, c_28, c_36, c_37, c_39, c_40, c_41, c_42, c_43, c_45, c_47, c_48, c_49, c_57, c_59, c_60, c_61, c_62, c_80, c_81, c_97, c_99, c_100, c_104, c_107, c_109, c_115, c_116, c_120, c_216, c_217, c_255, c_256, c_1000, c_2000, c_9999, c_1000000, f_X11_tellWords_10, hC1.1.s0, hC1.1.r0_0, hC1.1.r0_1, hC1.1.r0_2, hC1.1.r0_3, hC1.1.r0_6, hC1.1.r0_7, hC1.1.r0_8, hC1.1.r0_9, hC1.1.r0_10, hC1.1.r0_11, hC1.1.r0_12, hC1.1.r0_13, hC1.1.r0_14, hC1.1.r0_15, hC1.1.r0_16, hC1.1.r0_17, hC1.1.s1, hC1.1.s3, hC1.1.s5, hC1.1.s12, hC1.1.s87, hC1.1.s88, hC1.1.s473, hC1.1.s474, hC1.1.s506, hC1.1.s512, hC1.1.s515, hC1.1.s516, hC1.1.r87_0, hC1.1.SL23.f.1, hC1.1.SL23.f.2.1, hC1.1.SL23.f.2.2.1, hC1.1.SL55.f.1, hC1.1.TL480.f.1, hC1.1.TL493.f.1, hC1.1.BL475.f.1, e1]
    rw [zW_some, zI_inr]
    exact ⟨rfl, hJ, e⟩
end CST
/-! the reference's own steps -/
section RST
variable {N m c : Nat} {g : ZS} {A : ZA} {β : Type} {Q : β → Prop}
theorem RJ.thrown0 (hR : RJ m g A) (hA : AI A c) : RJ m (zsetI g m 10 (nI 0)) A := hR.keep hA ((zJ.setI (S := fun a j => a = m ∧ j = 10) ⟨rfl, rfl⟩).toM) (fun a j z => by omega)
theorem RW.thrown0 {l : List Int64} (h : RW g m l) : RW (zsetI g m 10 (nI 0)) m l := ⟨by rw [gi_sI, if_neg (by omega)]; exact h.1, h.2.1, h.2.2⟩
theorem r_say {p t : Nat} {k : Int32 × ZS → Option β} (hN : 10000 ≤ N) (hR : RJ m g A) (hA : AI A c) (ht : t = m + 12 ∨ t = m + 13) (hp : p < an A) (hk : ∀ g', zM m (SY m t) g g' → (∀ j, j < (sayA A (aB A p) (ame A p)).length → zgi g' t j = nI ((sayA A (aB A p) (ame A p)).getD j 0)) → RJ m g' A → zW (k (nI (sayA A (aB A p) (ame A p)).length, g')) Q) : zW (zvs g m 12 <| (f_X12_laySays N m (m + 1) (nI p) t g).bind k) Q := by
  rw [p_vs hR.1.s0]
  refine (r_says hN hR hA (Or.inl rfl) ht hp (hR.2.2.2.2.2.2.1.2.2.2 p hp) (hA.1.2.2.1 p hp)).bind (fun o ho => ?_)
  obtain ⟨a, g'⟩ := o
  obtain ⟨o1, o2, o3⟩ := ho
  dsimp only at o1 o2 o3
  subst o1
  exact hk g' o2 o3 (hR.keep hA o2 (fun a j z => by omega))
theorem r_only {v : Int64} {k : ZS → Option β} (hR : RJ m g A) (hA : AI A c) (hk : ∀ g', zJ (SW m) g g' → RW g' m [v] → RJ m g' A → zW (k g') Q) : zW ((zwrI g m 12 9 (0 : Int32)).bind fun g2 => zvs g2 m 12 <| (f_X12_tell m v g2).bind k) Q := by
  have J0 : zJ (SW m) g (zsetI g m 9 (nI 0)) := zJ.setI (Or.inl ⟨rfl, rfl⟩)
  rw [p_wrI hR.1.s0, Option.bind_some, p_vs (by exact hR.1.s0)]
  refine (s_tell (hR.1.J J0) RW.zero (by simp)).bind (fun g' hg' => ?_)
  have J := J0.trans hg'.1
  exact hk g' J hg'.2 (hR.keep hA J.toM (fun a j z => by omega))
theorem r_pair {v w : Int64} {k : ZS → Option β} (hR : RJ m g A) (hA : AI A c) (hk : ∀ g', zJ (SW m) g g' → RW g' m [v, w] → RJ m g' A → zW (k g') Q) : zW ((zwrI g m 12 9 (0 : Int32)).bind fun g2 => zvs g2 m 12 <| (f_X12_tell m v g2).bind fun g3 => zvs g3 m 12 <| (f_X12_tell m w g3).bind k) Q := by
  refine r_only hR hA (fun g1 J1 h1 hR1 => ?_)
  rw [p_vs hR1.1.s0]
  refine (s_tell hR1.1 h1 (by simp)).bind (fun g' hg' => ?_)
  have J := J1.trans hg'.1
  exact hk g' J hg'.2 (hR.keep hA J.toM (fun a j z => by omega))
end RST
