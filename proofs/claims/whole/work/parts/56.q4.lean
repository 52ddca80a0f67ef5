/-! ===== later, crackers, stay ===== -/
section CSP
variable {N x c : Nat} {g : ZS} {A : ZA} {β : Type} {Q : β → Prop}
theorem c_copy {p : Nat} {k : ZS → Option β} (hC : CJ x g A) (hA : AI A c) (hp : p < an A) (hk : ∀ g', zJ (fun a _ => x + 475 ≤ a ∧ a < x + 480) g g' → CB g' (x + 475) (aB A p) → zgi g' (x + 475) 5 = nI (ame A p) → CJ x g' A → zW (k g') Q) : zW ((zrdR g x 11 11).bind fun v2 => (zrdR g x 11 6).bind fun v3 => (zrdR g v3 6 0).bind fun v4 => (zaald 25 g v4 (nI p)).bind fun v5 => zvs g v2 0 <| (f_X0_copyFrom v2 v5 g).bind k) Q := by
  obtain ⟨b1, b2, b3, b4, b5, b6, b7⟩ := c_bird hC hA hp
  have n6 := hA.1.1
  refine w_rdR hC.1.s0 hC.1.r0_11 (w_rdR hC.1.s0 hC.1.r0_6 (w_rdR hC.1.SL23.f.1 hC.1.SL23.f.2.2.1 ?_))
  rw [a25_6 hC.1.SL23.f.2.1 (by omega), b1, Option.bind_some]
  refine w_vs hC.1.BL475.f.1 ?_
  refine (s_copyB hC.1.BL475 b2 (by omega) b3 b4 b5).bind (fun g' h => ?_)
  exact hk g' (h.1.mono (fun a j z => by omega)) h.2.1 h.2.2 (hC.keep hA h.1 (fun a j z => by omega))
theorem c_sayS {T jT me : Nat} {b : ZB} {k : ZS → Option β} (hN : 10000 ≤ N) (hC : CJ x g A) (hA : AI A c) (hb : CB g (x + 475) b) (hI : BI b) (hm : zgi g (x + 475) 5 = nI me) (hm8 : me ≤ 8) (hT : jT = 12 ∧ T = x + 480 ∨ jT = 13 ∧ T = x + 493) (hk : ∀ g', zJ (SFc x T) g g' → TS g' T (sayA A b me) → CJ x g' A → zW (k g') Q) : zW ((zrdR g x 11 jT).bind fun v1 => (zrdR g x 11 11).bind fun v2 => (zrdR g x 11 4).bind fun v3 => (zrdR g x 11 3).bind fun v4 => zvs g v1 10 <| (f_X10_follow N v1 v2 v3 v4 g).bind k) Q := by
  obtain ⟨r, e1, e2, e3, e4, e5⟩ := c_rule (c := c) hC
  have hrT : zgr g x jT = some T := by
    rcases hT with ⟨rfl, rfl⟩ | ⟨rfl, rfl⟩
    · exact hC.1.r0_12
    · exact hC.1.r0_13
  have hsT : zsh g T = some (10, 0) := by
    rcases hT with ⟨rfl, rfl⟩ | ⟨rfl, rfl⟩
    · exact hC.1.TL480.f.1
    · exact hC.1.TL493.f.1
  refine w_rdR hC.1.s0 hrT (w_rdR hC.1.s0 hC.1.r0_11 (w_rdR hC.1.s0 e1 (w_rdR hC.1.s0 hC.1.r0_3 (w_vs hsT ?_))))
  refine (c_follow hN hC hA e1 (by omega) hC.1.BL475 hb hI hm hm8 (by omega)).bind (fun g' hg' => ?_)
  exact hk g' hg'.1 hg'.2 (hC.keep hA hg'.1 (fun a j z => sfc_scr (by omega) z))
theorem c_XHl (hC : CJ x g A) : XHl g (x + 5) := by
  refine ⟨hC.1.s5, hC.1.s6, hC.1.r5_0, hC.1.r5_1, hC.1.s11, fun k hk => ?_⟩
  rcases (show k = 0 ∨ k = 1 ∨ k = 2 ∨ k = 3 by omega) with rfl | rfl | rfl | rfl
  · exact ⟨hC.1.r6_0, hC.1.s7⟩
  · exact ⟨hC.1.r6_1, hC.1.s8⟩
  · exact ⟨hC.1.r6_2, hC.1.s9⟩
  · exact ⟨hC.1.r6_3, hC.1.s10⟩
/-- the spare bird listens -/
theorem c_listenS {d me : Nat} {b : ZB} {k : ZS → Option β} (hC : CJ x g A) (hA : AI A c) (hb : CB g (x + 475) b) (hI : BI b) (hm : zgi g (x + 475) 5 = nI me) (hd : d < 2 ^ 31) (hk : ∀ g', zJ (fun a _ => x + 475 ≤ a ∧ a < x + 480) g g' → CB g' (x + 475) (pDay (aH A) b d) → zgi g' (x + 475) 5 = nI me → CJ x g' A → zW (k g') Q) : zW (zvs g x 11 <| (f_X11_listenOn x (x + 475) (nI d) g).bind k) Q := by
  refine w_vs hC.1.s0 ((s_listen hC.1.s0 hC.1.r0_2 (c_XHl hC) hC.2.2.1 hA.2.1.2 hC.1.BL475 hb hI hd).bind (fun g' h => ?_))
  exact hk g' (h.1.mono (fun a j z => by have := z.1; have := z.2.1; omega)) h.2 (by rw [h.1.gi (by omega)]; exact hm) (hC.keep hA h.1 (fun a j z => by have := z.1; have := z.2.1; omega))
end CSP
/-- then is as now -/
theorem r_then {N m c : Nat} {g : ZS} {A : ZA} {β : Type} {Q : β → Prop} {k : ZS → Option β} (hN : 10000 ≤ N) (hR : RJ m g A) (hA : AI A c) (hk : ∀ g', zJ (Sa (m + 17)) g g' → RN g' (m + 17) (an A) (ad A) (aB A) → RJ m g' A → zW (k g') Q) : zW ((zrdR g m 12 0).bind fun v4 => (zrdR g m 12 28).bind fun v5 => (f_X12_lay N v4 v5 (0 : Int32) g).bind k) Q := by
  refine w_rdR hR.1.s0 hR.1.r0 (w_rdR hR.1.s0 hR.1.r28 ?_)
  rw [c_0]
  refine (s_lay hN hR.1.s1 hR.1.s17 (by omega) (by omega) (by omega)).bind (fun g' h => ?_)
  exact hk g' (h.1.mono (fun a j z => z.1)) (hR.2.2.2.2.2.2.1.2.2.cp hA.1.1 h.2) (hR.keep hA h.1.toM (fun a j z => by omega))
section K6
variable {N : Nat}
theorem k_later (hN : 10000 ≤ N) (v u : Int32) : Call (fun x g => f_X11_later N x v u g) (fun m g => f_X12_later N m v u g) := call_q (fun x m c g A hC hA hc => by
  have n6 := hA.1.1
  have hd := bnd hA hc
  by_cases hvu : rb v 0 (an A) = true ∧ rb u 0 (60 + 1) = true
  · obtain ⟨hv, hu⟩ := hvu
    obtain ⟨p, -, hp, rfl⟩ := rb_t hv (by omega)
    obtain ⟨n, -, hn, rfl⟩ := rb_t hu (by omega)
    have me8 := (hA.1.2.1 p hp).2
    have hBI := fun k => goB_SI (H := aH A) (d := ad A) hA.1.2.2.1 k p hp
    refine ⟨nI (sayA A (goB (aH A) n (aB A) (ad A) p) (ame A p)).length, (sayA A (goB (aH A) n (aB A) (ad A) p) (ame A p)).map wL, by rw [List.length_map]; exact says_len, ?_, fun g' hR => ?_⟩
    · unfold QC f_X11_later
      refine w_vs hC.1.1.s0 (w_eq (e_ip11 hC.1 hA) ?_)
      rw [if_neg (bI_ne hv), c_0, c_60, rngB (by omega) (by omega), if_pos hu]
      refine c_copy hC.1 hA hp (fun g1 J1 B1 M1 C1 => ?_)
      refine zW_forI (fun i g2 => zJ (fun a _ => x + 475 ≤ a ∧ a < x + 480) g g2 ∧ CB g2 (x + 475) (goB (aH A) i (aB A) (ad A) p) ∧ zgi g2 (x + 475) 5 = nI (ame A p) ∧ CJ x g2 A) n (fun i g2 hi hI => ?_) (fun g2 hI => ?_) (by omega) (Nat.zero_le _) ⟨J1, B1, M1, C1⟩
      · obtain ⟨J2, B2, M2, C2⟩ := hI
        show zW (f_X11_later_38 N x (nI n) (nI i) g2) _
        unfold f_X11_later_38
        rw [if_neg (nI_ge hi (by omega))]
        refine w_rdR C2.1.s0 C2.1.r0_11 (w_rdR C2.1.s0 C2.1.r0_6 (w_rdI C2.1.SL23.f.1 C2.2.2.2.2.2.1.1.2.1 ?_))
        rw [nI_add]
        refine c_listenS C2 hA B2 (hBI i) M2 (by omega) (fun g3 J3 B3 M3 C3 => ?_)
        rw [zW_some, zI_inl, c_1, nI_add]
        exact ⟨rfl, J2.trans J3, B3, M3, C3⟩
      · obtain ⟨J2, B2, M2, C2⟩ := hI
        show zW (f_X11_later_38 N x (nI n) (nI n) g2) _
        unfold f_X11_later_38
        rw [if_pos (nI_le (Nat.le_refl _) (by omega)), zW_map]
        refine c_sayS hN C2 hA B2 (hBI n) M2 me8 (Or.inl ⟨rfl, rfl⟩) (fun g3 J3 T3 C3 => ?_)
        refine w_vs C3.1.s0 ((c_tellWords hN C3 hA T3).bind (fun o ho => ?_))
        rw [zW_some]
        exact ⟨ho.1, ((J2.mono (fun a j z => by omega)).trans (J3.mono (fun a j z => by omega))).trans (ho.2.1.mono (fun a j z => by omega)), ho.2.2⟩
    · unfold QF f_X12_later
      refine r_start hR hA (fun g1 J0 hR1 _ => ?_)
      refine w_vs hR1.1.1.s0 (w_eq (e_ip hR1.1 hA) ?_)
      rw [if_neg (bI_ne hv), c_60, e_inz (by omega), Option.bind_some, if_neg (bI_ne hu)]
      refine r_then hN hR1.1 hA (fun g2 J2 T2 R2 => ?_)
      refine w_rdR R2.1.s0 R2.1.r28 (w_vs R2.1.s0 ?_)
      refine (s_goDays hN R2.1 R2.1.s17 R2.2.2.2.2.1 hA.2.1.2 R2.2.2.2.2.2.2.1.1 T2 hA.1.2.2.1 n6 (by omega) (by omega) (by omega)).bind (fun g3 h3 => ?_)
      obtain ⟨J3, T3⟩ := h3
      have R3 : RJ m g3 A := R2.keep hA J3.toM (fun a j z => by omega)
      refine w_rdR R3.1.s0 R3.1.r28 (w_rdR R3.1.s0 R3.1.r22 (w_vs R3.1.s0 ?_))
      refine (r_says hN R3 hA (Or.inr rfl) (Or.inl rfl) hp (T3.2 p hp) (hBI n)).bind (fun o ho => ?_)
      obtain ⟨y, g4⟩ := o
      obtain ⟨o1, J4, T4⟩ := ho
      dsimp only at o1 J4 T4 ⊢
      subst o1
      have R4 := R3.keep hA J4 (fun a j z => by omega)
      refine w_rdR R4.1.s0 R4.1.r22 (w_vs R4.1.s0 ?_)
      refine (s_tellList hN R4.1 R4.1.s12 says_len T4 (by omega)).bind (fun g5 h5 => ?_)
      rw [zW_some]
      exact ⟨rfl, (((J0.trans ((J2.toM (m := m)).mono (fun a j z => by omega))).trans ((J3.toM (m := m)).mono (fun a j z => by omega))).trans (J4.mono (fun a j z => by omega))).trans ((h5.1.toM (m := m)).mono (fun a j z => by omega)), h5.2⟩
  · refine ⟨-1, aR A, hA.2.2.2.2.1, ?_, fun g' hR => ?_⟩
    · unfold QC f_X11_later f_X11_later_18
      refine w_vs hC.1.1.s0 (w_eq (e_ip11 hC.1 hA) ?_)
      have fin : zW (some ((-1 : Int32), g)) (fun o => o.1 = -1 ∧ zJ (Scr x) g o.2 ∧ XR o.2 (x + 3) (x + 4) (aR A)) := zW_some.mpr ⟨rfl, zJ.rfl, hC.2⟩
      cases hv : rb v 0 (an A) with
      | false => rw [if_pos (bI_eq rfl)]; exact fin
      | true => rw [if_neg (bI_ne rfl), c_0, c_60, rngB (by omega) (by omega), if_neg (fun h => hvu ⟨hv, h⟩)]; exact fin
    · unfold QF f_X12_later f_X12_later_23
      refine r_start hR hA (fun g1 J0 hR1 _ => ?_)
      refine w_vs hR1.1.1.s0 (w_eq (e_ip hR1.1 hA) ?_)
      have fin : zW (some ((-1 : Int32), g1)) (fun o => o.1 = -1 ∧ zM m (ScM m) g' o.2 ∧ RW o.2 m (aR A)) := zW_some.mpr ⟨rfl, J0, hR1.2⟩
      cases hv : rb v 0 (an A) with
      | false => rw [if_pos (bI_eq rfl)]; exact fin
      | true => rw [if_neg (bI_ne rfl), c_60, e_inz (by omega), Option.bind_some, if_pos (bI_eq (Bool.eq_false_iff.mpr (fun h => hvu ⟨hv, h⟩)))]; exact fin)
/-! first -/
theorem e_tat {g : ZS} {T p : Nat} {l : List Nat} (hT : TL (zh g) T) (h : TS g T l) (hp : p < 2 ^ 30) : f_X10_at T (nI p) g = some (if p < l.length then nI (l.getD p 0) else -nI 1) := by
  obtain ⟨t1, t2, t3, t4, t5, t6, t7, t8⟩ := hT.f
  obtain ⟨k1, k2, k3⟩ := h
  unfold f_X10_at f_X10_at_21 f_X10_at_22
  by_cases e : p < l.length
  · have := (k3 p e).1
    simp (disch := omega) only [Option.bind_some, Option.map_some, Option.bind_none, Option.bind_fun_none, zrdI, zrdR, zwrI, zwrR, zwrZ, zvs, zald, zast, zlald, zlast, zaald, zlen, sh_sI, sh_sL, sh_sR, gr_sI, gr_sL, gi_sL, gi_sR, gl_sI, gl_sR, sz_sI, sz_sL, sz_sR, gi_sI, gl_sL, gr_sR, nar20, nar22_0, nar22_1, narb0, narb1, nI_clamp, zin_nI, nI_leI, nI_ltI, nI_eq, nI_add, nI_mul, nI_sub, nI_dec, nI_lt0, nI_0le, neg1_lt, neg1_le, neg1_ne, neg1_ne2, reduceIte, eq_self, ite_true, ite_false, true_and, and_true, or_true, true_or, and_self, Nat.reduceEqDiff, Nat.reduceAdd, Nat.reduceMul, Nat.reduceSub, Nat.add_zero, Nat.zero_add, bh_mk, bc_mk, bn_mk, bo_mk, bO_mk, bF_mk, bL_mk, bT_mk, if_pos, if_neg, ng_lt, ng_le, ng_lt2, ng_le2, ng_eq, ng_eq2, ng_nn, ng_dec, ng_dec0, sb_nle, sb_nlt, bI_0, bI_1, bI_t, bI_f, bI_nar, bitW_e, and_false, false_and, Nat.add_sub_cancel, if_false, if_true, c_0, c_1, c_2, c_3, c_4, c_5, c_6, c_7, c_8, c_9, c_10, c_11, c_12, c_13, c_16, c_17, c_20, c_24, c_28, c_36, c_37, c_39, c_40, c_41, c_42, c_43, c_45, c_47, c_48, c_49, c_57, c_59, c_60, c_61, c_62, c_80, c_81, c_97, c_99, c_100, c_104, c_107, c_109, c_115, c_116, c_120, c_216, c_217, c_255, c_256, c_1000, c_2000, c_9999, c_1000000, t1, t2, t5, k1, this]
  · simp (disch := omega) only [Option.bind_some, Option.map_some, Option.bind_none, Option.bind_fun_none, zrdI, zrdR, zwrI, zwrR, zwrZ, zvs, zald, zast, zlald, zlast, zaald, zlen, sh_sI, sh_sL, sh_sR, gr_sI, gr_sL, gi_sL, gi_sR, gl_sI, gl_sR, sz_sI, sz_sL, sz_sR, gi_sI, gl_sL, gr_sR, nar20, nar22_0, nar22_1, narb0, narb1, nI_clamp, zin_nI, nI_leI, nI_ltI, nI_eq, nI_add, nI_mul, nI_sub, nI_dec, nI_lt0, nI_0le, neg1_lt, neg1_le, neg1_ne, neg1_ne2, reduceIte, eq_self, ite_true, ite_false, true_and, and_true, or_true, true_or, and_self, Nat.reduceEqDiff, Nat.reduceAdd, Nat.reduceMul, Nat.reduceSub, Nat.add_zero, Nat.zero_add, bh_mk, bc_mk, bn_mk, bo_mk, bO_mk, bF_mk, bL_mk, bT_mk, if_pos, if_neg, ng_lt, ng_le, ng_lt2, ng_le2, ng_eq, ng_eq2, ng_nn, ng_dec, ng_dec0, sb_nle, sb_nlt, bI_0, bI_1, bI_t, bI_f, bI_nar, bitW_e, and_false, false_and, Nat.add_sub_cancel, if_false, if_true, c_0, c_1, c_2, c_3, c_4, c_5, c_6, c_7, c_8, c_9, c_10, c_11, c_12, c_13, c_16, c_17, c_20, c_24, c_28, c_36, c_37, c_39, c_40, c_41, c_42, c_43, c_45, c_47, c_48, c_49, c_57, c_59, c_60, c_61, c_62, c_80, c_81, c_97, c_99, c_100, c_104, c_107, c_109, c_115, c_116, c_120, c_216, c_217, c_255, c_256, c_1000, c_2000, c_9999, c_1000000, t1, t2, t5, k1]
def isF (l : List Nat) (w : Nat) : Bool := decide (0 < l.length ∧ l.getD 0 0 = w)
theorem isF_at {l : List Nat} {w : Nat} (hl : ∀ j, j < l.length → l.getD j 0 < 8) (hw : w < 9) : ((if 0 < l.length then nI (l.getD 0 0) else -nI 1) = nI w) ↔ isF l w = true := by
  unfold isF
  rw [decide_eq_true_eq]
  by_cases e : 0 < l.length
  · rw [if_pos e, nI_eq (by have := hl 0 e; omega) (by omega)]
    exact ⟨fun h => ⟨e, h⟩, fun h => h.2⟩
  · rw [if_neg e, ng_eq2 (by omega) (by omega)]
    exact ⟨fun h => by omega, fun h => absurd h.1 e⟩
theorem isF_ix {l : List Nat} {w : Nat} (hl : l.length ≤ 8) : ((if ix l w < l.length then nI (ix l w) else -nI 2) = 0) ↔ isF l w = true := by
  unfold isF
  rw [decide_eq_true_eq]
  obtain ⟨h1, h2, h3, h4⟩ := zleast_spec (fun i => decide (l.getD i 0 = w)) l.length 0
  have hix : ix l w = zleast (fun i => decide (l.getD i 0 = w)) l.length 0 := rfl
  rw [← hix] at h1 h2 h3 h4
  by_cases e : ix l w < l.length
  · rw [if_pos e]
    show nI (ix l w) = nI 0 ↔ _
    rw [nI_eq (by omega) (by omega)]
    constructor
    · intro h
      rw [h] at h4 e
      exact ⟨e, of_decide_eq_true (h4 (by omega))⟩
    · rintro ⟨a, b⟩
      rcases Nat.eq_zero_or_pos (ix l w) with h | h
      · exact h
      · have := h3 0 (by omega) h
        rw [decide_eq_false_iff_not] at this
        exact absurd b this
  · rw [if_neg e]
    refine ⟨fun h => absurd h (by decide), fun h => ?_⟩
    have := h3 0 (by omega) (by omega)
    rw [decide_eq_false_iff_not] at this
    exact absurd h.2 this
theorem r_isFirst {m c a p w : Nat} {g : ZS} {A : ZA} {b : ZB} (hN : 10000 ≤ N) (hR : RJ m g A) (hA : AI A c) (ha : a = m + 1 ∨ a = m + 17) (hp : p < an A) (hb : RB g a (36 * p) b) (hI : BI b) (hw : w < 9) : zW (f_X12_isFirst N m a (nI p) (nI w) g) (fun o => o.1 = bI (isF (sayA A b (ame A p)) w) ∧ zM m (SY m (m + 12)) g o.2 ∧ RJ m o.2 A) := by
  unfold f_X12_isFirst f_X12_isFirst_15
  refine w_vs hR.1.s0 ((r_placeOf hN hR hA ha hp hb hI (by omega)).bind (fun o ho => ?_))
  obtain ⟨o1, o2⟩ := ho
  have R2 := hR.keep hA o2 (fun a j z => by omega)
  have hx := isF_ix (l := sayA A b (ame A p)) (w := w) says_len
  rw [← o1] at hx
  cases hf : isF (sayA A b (ame A p)) w with
  | true =>
    rw [if_pos (hx.mpr hf), if_pos (show vp_nar .boolean (1 : Int32) = 1 from rfl), zW_some]
    exact ⟨rfl, o2, R2⟩
  | false =>
    rw [if_neg (fun h => by rw [hx.mp h] at hf; cases hf), if_pos (show vp_nar .boolean (0 : Int32) = 0 from rfl), zW_some]
    exact ⟨rfl, o2, R2⟩
def tbW (b : ZB) (w n : Nat) : ZB := (bh b, bc b, bn b, bo b, bO b, bF b, bL b, uN (bT b) w (min 99 (bT b w + n)))
theorem tbW_BI {b : ZB} {w n : Nat} (h : BI b) : BI (tbW b w n) := by
  obtain ⟨h1, h2, h3, h4, h5⟩ := h
  refine ⟨h1, h2, h3, h4, fun v hv => ?_⟩
  obtain ⟨k1, k2, k3, k4⟩ := h5 v hv
  refine ⟨k1, k2, k3, ?_⟩
  show uN (bT b) w (min 99 (bT b w + n)) v ≤ 99
  unfold uN
  split <;> omega
theorem s_goTeach {g : ZS} {a p w n : Nat} {b : ZB} (ha : zsh g a = some (20, 217)) (hp : p < 6) (hw : w < 8) (hn : n ≤ 1000) (hb : RB g a (36 * p) b) (hI : BI b) : zW (f_X12_goTeach a (nI p) (nI w) (nI n) g) (fun g' => zJ (Sp a (36 * p)) g g' ∧ RB g' a (36 * p) (tbW b w n)) := by
  obtain ⟨h1, h2, h3, h4, h5⟩ := id hb
  obtain ⟨k1, k2, k3, k4⟩ := h5 w hw
  have j4 := (hI.2.2.2.2 w hw).2.2.2
  unfold f_X12_goTeach f_X12_of
  simp only [Option.bind_some, c_28, c_36, c_99, nI_mul, nI_add]
  rw [a20_217 ha (by omega), Option.bind_some, k4, mn, Option.bind_some, w20_217 ha (by omega), Option.bind_some, zW_some, nI_add]
  have hm : (if nI (bT b w + n) < nI 99 then nI (bT b w + n) else nI 99) = nI (min 99 (bT b w + n)) := by
    by_cases e : bT b w + n < 99
    · rw [if_pos (nI_lt e (by omega)), Nat.min_eq_right (by omega)]
    · rw [if_neg (nI_nlt (by omega) (by omega)), Nat.min_eq_left (by omega)]
  rw [hm]
  have J : zJ (fun x j => x = a ∧ j = 36 * p + (28 + w)) g (zsetI g a (36 * p + (28 + w)) (nI (min 99 (bT b w + n)))) := zJ.setI ⟨rfl, rfl⟩
  refine ⟨J.mono (fun x j z => ⟨z.1, by omega, by omega⟩), by rw [J.gi (by omega)]; exact h1, by rw [J.gi (by omega)]; exact h2, by rw [J.gi (by omega)]; exact h3, by rw [J.gi (by omega)]; exact h4, fun v hv => ?_⟩
  obtain ⟨v1, v2, v3, v4⟩ := h5 v hv
  refine ⟨by rw [J.gi (by omega)]; exact v1, by rw [J.gi (by omega)]; exact v2, by rw [J.gi (by omega)]; exact v3, ?_⟩
  show _ = nI (uN (bT b) w (min 99 (bT b w + n)) v)
  unfold uN
  by_cases e : v = w
  · subst e; rw [gi_sI, if_pos ⟨rfl, rfl⟩, if_pos rfl]
  · rw [gi_sI, if_neg (by omega), if_neg e]; exact v4
theorem k_crackers (hN : 10000 ≤ N) (v u : Int32) : Call (fun x g => f_X11_crackers N x v u g) (fun m g => f_X12_crackers N m v u g) := call_q (fun x m c g A hC hA hc => by
  have n6 := hA.1.1
  by_cases hvu : rb v 0 (an A) = true ∧ rb u 0 8 = true
  · obtain ⟨hv, hu⟩ := hvu
    obtain ⟨p, -, hp, rfl⟩ := rb_t hv (by omega)
    obtain ⟨w, -, hw, rfl⟩ := rb_t hu (by omega)
    have me8 := (hA.1.2.1 p hp).2
    have hBp := hA.1.2.2.1 p hp
    have hOb : bO (aB A p) w ≤ 9999 := by have := (hBp.2.2.2.2 w hw).1; have := hBp.2.2.1; omega
    have hTb := (hBp.2.2.2.2 w hw).2.2.2
    have hBI := fun k => tbW_BI (w := w) (n := k) hBp
    have hlt := fun k j hj => (sayA_lt (A := A) (b := tbW (aB A p) w k) (me := ame A p) (j := j) hj).1
    obtain ⟨P, hPd⟩ : ∃ P : Nat → Bool, P = fun k => isF (sayA A (tbW (aB A p) w k) (ame A p)) w := ⟨_, rfl⟩
    have hPe : ∀ k, isF (sayA A (tbW (aB A p) w k) (ame A p)) w = P k := fun k => by rw [hPd]
    by_cases h0 : bO (aB A p) w = 0
    · refine ⟨-2, aR A, hA.2.2.2.2.1, ?_, fun g' hR => ?_⟩
      · unfold QC f_X11_crackers
        refine w_vs hC.1.1.s0 (w_eq (e_ip11 hC.1 hA) ?_)
        rw [if_neg (bI_ne hv), e_iw11, Option.bind_some, if_neg (bI_ne hu)]
        refine c_copy hC.1 hA hp (fun g1 J1 B1 M1 C1 => ?_)
        have hO := (B1.2.2.2.2 w hw).1
        refine w_rdR C1.1.s0 C1.1.r0_11 (w_rdR C1.1.BL475.f.1 C1.1.BL475.f.2.2.2.2.2.1 ?_)
        rw [a20_8 C1.1.BL475.f.2.1 hw, hO, Option.bind_some, h0, if_pos (show nI 0 = 0 from rfl), zW_some]
        exact ⟨rfl, J1.mono (fun a j z => by omega), hC.2.stay J1 (fun a j z => by omega)⟩
      · unfold QF f_X12_crackers
        refine r_start hR hA (fun g1 J0 hR1 _ => ?_)
        refine w_vs hR1.1.1.s0 (w_eq (e_ip hR1.1 hA) ?_)
        rw [if_neg (bI_ne hv), e_iw12, Option.bind_some, if_neg (bI_ne hu)]
        refine w_rdR hR1.1.1.s0 hR1.1.1.r0 (w_eq (e_hasHeard hR1.1.1.s1 (by omega) hw (hR1.1.2.2.2.2.2.2.1.2.2.2 p hp) hBp) ?_)
        rw [decide_eq_false (by omega), if_pos (bI_eq rfl), zW_some]
        exact ⟨rfl, J0, hR1.2⟩
    · refine ⟨if zleast P 41 0 < 41 then nI (zleast P 41 0) else -nI 2, aR A, hA.2.2.2.2.1, ?_, fun g' hR => ?_⟩
      · unfold QC f_X11_crackers
        refine w_vs hC.1.1.s0 (w_eq (e_ip11 hC.1 hA) ?_)
        rw [if_neg (bI_ne hv), e_iw11, Option.bind_some, if_neg (bI_ne hu)]
        refine c_copy hC.1 hA hp (fun g1 J1 B1 M1 C1 => ?_)
        have hO := (B1.2.2.2.2 w hw).1
        refine w_rdR C1.1.s0 C1.1.r0_11 (w_rdR C1.1.BL475.f.1 C1.1.BL475.f.2.2.2.2.2.1 ?_)
        rw [a20_8 C1.1.BL475.f.2.1 hw, hO, Option.bind_some, if_neg (nI_ne0 (by omega) (by omega)), c_0]
        have hb0 : CB g1 (x + 475) (tbW (aB A p) w 0) := by
          obtain ⟨q1, q2, q3, q4, q5⟩ := B1
          refine ⟨q1, q2, q3, q4, fun z hz => ?_⟩
          obtain ⟨y1, y2, y3, y4⟩ := q5 z hz
          refine ⟨y1, y2, y3, ?_⟩
          show _ = nI (uN (bT (aB A p)) w (min 99 (bT (aB A p) w + 0)) z)
          unfold uN
          split
          · rename_i e; subst e; rw [y4]; congr 1; omega
          · exact y4
        refine zW_forI (fun i g2 => zJ (fun a j => SFc x (x + 480) a j ∨ x + 475 ≤ a ∧ a < x + 480) g g2 ∧ CB g2 (x + 475) (tbW (aB A p) w i) ∧ zgi g2 (x + 475) 5 = nI (ame A p) ∧ CJ x g2 A ∧ ∀ k, k < i → P k = false) 41 (fun i g2 hi hI => ?_) (fun g2 hI => ?_) (by omega) (Nat.zero_le _) ⟨J1.mono (fun a j z => Or.inr z), hb0, M1, C1, fun k hk => by omega⟩
        · obtain ⟨J2, B2, M2, C2, hP⟩ := hI
          show zW (f_X11_crackers_50 N x (nI w) (nI i) g2) _
          unfold f_X11_crackers_50
          rw [c_40, if_neg (nI_nlt (by omega) (by omega))]
          refine c_sayS hN C2 hA B2 (hBI i) M2 me8 (Or.inl ⟨rfl, rfl⟩) (fun g3 J3 T3 C3 => ?_)
          refine w_rdR C3.1.s0 C3.1.r0_12 (w_vs C3.1.TL480.f.1 ?_)
          rw [c_0]
          refine w_eq (e_tat C3.1.TL480 T3 (by omega)) ?_
          have hx := isF_at (w := w) (l := sayA A (tbW (aB A p) w i) (ame A p)) (hlt i) (by omega)
          rw [hPe] at hx
          have hJ3 := J2.trans (J3.mono (fun a j z => Or.inl z))
          cases hf : P i with
          | true =>
            rw [if_pos (hx.mpr hf), Option.map_some, zW_some, zI_inr]
            have hz : zleast P 41 0 = i := by
              obtain ⟨a1, a2, a3, a4⟩ := zleast_spec P 41 0
              rcases Nat.lt_trichotomy (zleast P 41 0) i with h | h | h
              · have := a4 (by omega); rw [hP _ h] at this; cases this
              · exact h
              · have := a3 i (by omega) h; rw [hf] at this; cases this
            rw [hz, if_pos hi]
            exact ⟨rfl, hJ3.mono (fun a j z => by omega), hC.2.stay hJ3 (fun a j z => by omega)⟩
          | false =>
            rw [if_neg (fun h => by rw [hx.mp h] at hf; cases hf)]
            have B3 := B2.keepJ J3 (fun a j z y => by have := z.1; have := z.2.1; omega)
            have M3 : zgi g3 (x + 475) 5 = nI (ame A p) := by rw [J3.gi (by omega)]; exact M2
            have hT := (B3.2.2.2.2 w hw).2.2.2
            have hTv : bT (tbW (aB A p) w i) w = min 99 (bT (aB A p) w + i) := uN_s
            refine w_rdR C3.1.s0 C3.1.r0_11 (w_rdR C3.1.BL475.f.1 C3.1.BL475.f.2.2.2.2.2.2.2.2 (w_rdR C3.1.s0 C3.1.r0_11 (w_rdR C3.1.BL475.f.1 C3.1.BL475.f.2.2.2.2.2.2.2.2 ?_)))
            have s4 := C3.1.BL475.f.2.2.2.2.1
            rw [a20_8 s4 hw, hT, hTv, Option.bind_some, c_1, nI_add, c_99, mn, Option.bind_some]
            have hm : (if nI (min 99 (bT (aB A p) w + i) + 1) < nI 99 then nI (min 99 (bT (aB A p) w + i) + 1) else nI 99) = nI (min 99 (bT (aB A p) w + (i + 1))) := by
              by_cases e : min 99 (bT (aB A p) w + i) + 1 < 99
              · rw [if_pos (nI_lt e (by omega))]; congr 1; omega
              · rw [if_neg (nI_nlt (by omega) (by omega))]; congr 1; omega
            rw [hm, w20_8 s4 hw, Option.bind_some, zW_some, zI_inl, nI_add]
            have J4 : zJ (fun a j => a = x + 475 + 4) g3 (zsetI g3 (x + 475 + 4) w (nI (min 99 (bT (aB A p) w + (i + 1))))) := zJ.setI rfl
            refine ⟨rfl, hJ3.trans (J4.mono (fun a j z => by omega)), ?_, by rw [J4.gi (by omega)]; exact M3, C3.keep hA J4 (fun a j z => by omega), fun k hk => ?_⟩
            · obtain ⟨q1, q2, q3, q4, q5⟩ := B3
              refine ⟨by rw [J4.gi (by omega)]; exact q1, by rw [J4.gi (by omega)]; exact q2, by rw [J4.gi (by omega)]; exact q3, by rw [J4.gi (by omega)]; exact q4, fun z hz => ?_⟩
              obtain ⟨y1, y2, y3, y4⟩ := q5 z hz
              refine ⟨by rw [J4.gi (by omega)]; exact y1, by rw [J4.gi (by omega)]; exact y2, by rw [J4.gi (by omega)]; exact y3, ?_⟩
              show _ = nI (uN (bT (aB A p)) w (min 99 (bT (aB A p) w + (i + 1))) z)
              have y4' : zgi g3 (x + 475 + 4) z = nI (uN (bT (aB A p)) w (min 99 (bT (aB A p) w + i)) z) := y4
              unfold uN at y4' ⊢
              by_cases e : z = w
              · subst e; rw [gi_sI, if_pos ⟨rfl, rfl⟩, if_pos rfl]
              · rw [if_neg e] at y4' ⊢
                rw [gi_sI, if_neg (by omega)]; exact y4'
            · by_cases e : k = i
              · subst e; exact hf
              · exact hP k (by omega)
        · obtain ⟨J2, B2, M2, C2, hP⟩ := hI
          show zW (f_X11_crackers_50 N x (nI w) (nI 41) g2) _
          unfold f_X11_crackers_50
          rw [c_40, if_pos (nI_lt (by omega) (by omega)), Option.map_some, zW_some, zI_inr]
          have hz : ¬ zleast P 41 0 < 41 := fun h => by
            have := (zleast_spec P 41 0).2.2.2 (by omega); rw [hP _ h] at this; cases this
          rw [if_neg hz]
          exact ⟨rfl, J2.mono (fun a j z => by omega), hC.2.stay J2 (fun a j z => by omega)⟩
      · unfold QF f_X12_crackers
        refine r_start hR hA (fun g1 J0 hR1 _ => ?_)
        refine w_vs hR1.1.1.s0 (w_eq (e_ip hR1.1 hA) ?_)
        rw [if_neg (bI_ne hv), e_iw12, Option.bind_some, if_neg (bI_ne hu)]
        refine w_rdR hR1.1.1.s0 hR1.1.1.r0 (w_eq (e_hasHeard hR1.1.1.s1 (by omega) hw (hR1.1.2.2.2.2.2.2.1.2.2.2 p hp) hBp) ?_)
        rw [decide_eq_true (by omega), if_neg (bI_ne rfl), c_0]
        refine zW_forI (fun i g2 => zM m (fun a j => SY m (m + 12) a j ∨ a = m + 17) g1 g2 ∧ RJ m g2 A ∧ ∀ k, k < i → P k = false) 41 (fun i g2 hi hI => ?_) (fun g2 hI => ?_) (by omega) (Nat.zero_le _) ⟨zM.rfl, hR1.1, fun k hk => by omega⟩
        · obtain ⟨J2, R2, hP⟩ := hI
          show zW (f_X12_crackers_39 N m (nI p) (nI w) (nI i) g2) _
          unfold f_X12_crackers_39
          rw [c_40, if_neg (nI_nlt (by omega) (by omega))]
          refine r_then hN R2 hA (fun g3 J3 T3 R3 => ?_)
          refine w_rdR R3.1.s0 R3.1.r28 ?_
          refine (s_goTeach R3.1.s17 (by omega) hw (by omega) (T3.2 p hp) hBp).bind (fun g4 h4 => ?_)
          obtain ⟨J4, T4⟩ := h4
          have R4 : RJ m g4 A := R3.keep hA J4.toM (fun a j z => by have := z.1; omega)
          refine w_rdR R4.1.s0 R4.1.r28 (w_vs R4.1.s0 ?_)
          refine (r_isFirst hN R4 hA (Or.inr rfl) hp T4 (hBI i) (by omega)).bind (fun o ho => ?_)
          obtain ⟨o1, J5, R5⟩ := ho
          rw [hPe] at o1
          have hJ5 : zM m (fun a j => SY m (m + 12) a j ∨ a = m + 17) g1 o.2 := ((J2.trans ((J3.toM (m := m)).mono (fun a j z => Or.inr z))).trans ((J4.toM (m := m)).mono (fun a j z => Or.inr z.1))).trans (J5.mono (fun a j z => Or.inl z))
          cases hf : P i with
          | true =>
            rw [hf] at o1
            rw [o1, if_neg (bI_ne rfl), Option.map_some, zW_some, zI_inr]
            have hz : zleast P 41 0 = i := by
              obtain ⟨a1, a2, a3, a4⟩ := zleast_spec P 41 0
              rcases Nat.lt_trichotomy (zleast P 41 0) i with h | h | h
              · have := a4 (by omega); rw [hP _ h] at this; cases this
              · exact h
              · have := a3 i (by omega) h; rw [hf] at this; cases this
            rw [hz, if_pos hi]
            exact ⟨rfl, J0.trans (hJ5.mono (fun a j z => by omega)), hR1.2.keepM hJ5 (by omega) (fun j => by omega)⟩
          | false =>
            rw [hf] at o1
            rw [o1, if_pos (bI_eq rfl), zW_some, zI_inl, c_1, nI_add]
            refine ⟨rfl, hJ5, R5, fun k hk => ?_⟩
            by_cases e : k = i
            · subst e; exact hf
            · exact hP k (by omega)
        · obtain ⟨J2, R2, hP⟩ := hI
          show zW (f_X12_crackers_39 N m (nI p) (nI w) (nI 41) g2) _
          unfold f_X12_crackers_39
          rw [c_40, if_pos (nI_lt (by omega) (by omega)), Option.map_some, zW_some, zI_inr]
          have hz : ¬ zleast P 41 0 < 41 := fun h => by
            have := (zleast_spec P 41 0).2.2.2 (by omega); rw [hP _ h] at this; cases this
          rw [if_neg hz]
          exact ⟨rfl, J0.trans (J2.mono (fun a j z => by omega)), hR1.2.keepM J2 (by omega) (fun j => by omega)⟩
  · refine ⟨-1, aR A, hA.2.2.2.2.1, ?_, fun g' hR => ?_⟩
    · unfold QC f_X11_crackers f_X11_crackers_15
      refine w_vs hC.1.1.s0 (w_eq (e_ip11 hC.1 hA) ?_)
      have fin : zW (some ((-1 : Int32), g)) (fun o => o.1 = -1 ∧ zJ (Scr x) g o.2 ∧ XR o.2 (x + 3) (x + 4) (aR A)) := zW_some.mpr ⟨rfl, zJ.rfl, hC.2⟩
      cases hv : rb v 0 (an A) with
      | false => rw [if_pos (bI_eq rfl)]; exact fin
      | true => rw [if_neg (bI_ne rfl), e_iw11, Option.bind_some, if_pos (bI_eq (Bool.eq_false_iff.mpr (fun h => hvu ⟨hv, h⟩)))]; exact fin
    · unfold QF f_X12_crackers f_X12_crackers_20
      refine r_start hR hA (fun g1 J0 hR1 _ => ?_)
      refine w_vs hR1.1.1.s0 (w_eq (e_ip hR1.1 hA) ?_)
      have fin : zW (some ((-1 : Int32), g1)) (fun o => o.1 = -1 ∧ zM m (ScM m) g' o.2 ∧ RW o.2 m (aR A)) := zW_some.mpr ⟨rfl, J0, hR1.2⟩
      cases hv : rb v 0 (an A) with
      | false => rw [if_pos (bI_eq rfl)]; exact fin
      | true => rw [if_neg (bI_ne rfl), e_iw12, Option.bind_some, if_pos (bI_eq (Bool.eq_false_iff.mpr (fun h => hvu ⟨hv, h⟩)))]; exact fin)
end K6
