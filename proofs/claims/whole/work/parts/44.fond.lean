/-! ===== fondness ===== -/
def M0 : QM := (false, 0, [false], [], [])
theorem Reach.det {v : List Nat} {M M1 M2 : QM} {p q : Nat} (h1 : Reach v M p M1 q) (h2 : Reach v M p M2 q) : M1 = M2 := by
  have := h1.2.symm.trans h2.2
  exact Option.some.inj this
theorem Reach.split {v : List Nat} {M M2 : QM} {p q r : Nat} (h : Reach v M p M2 r) (h1 : p ≤ q) (h2 : q ≤ r) : ∃ M1, Reach v M p M1 q ∧ Reach v M1 q M2 r := by
  have h3 := h.2
  rw [show r - p = (q - p) + (r - q) by omega, qRun_add] at h3
  cases hq : qRun v (q - p) M p with
  | none => rw [hq] at h3; cases h3
  | some M1 =>
    rw [hq, Option.bind_some, show p + (q - p) = q by omega] at h3
    exact ⟨M1, ⟨h1, hq⟩, h2, h3⟩
theorem Reach.next {v : List Nat} {M M' : QM} {p q : Nat} (h : Reach v M p M' q) (hp : p < q) : ∃ M1, p < v.length ∧ qStep M (v.getD p 0) = some M1 ∧ Reach v M1 (p + 1) M' q := by
  have h3 := h.2
  rw [show q - p = (q - (p + 1)) + 1 by omega, qRun_s] at h3
  split at h3
  · rename_i hl
    cases hq : qStep M (v.getD p 0) with
    | none => rw [hq] at h3; cases h3
    | some M1 => rw [hq] at h3; exact ⟨M1, hl, _root_.rfl, by omega, h3⟩
  · cases h3
def Acc (v code : List Nat) : Prop := ∃ M', Reach v M0 0 M' v.length ∧ M'.1 = true ∧ (qc M').length = 1 ∧ (rel 0 (qk M') (qw M')).1 = code
theorem Acc.noFail {v code : List Nat} {e : Nat} (h : Acc v code) (hf : FailAt v M0 0 e) : False := by
  obtain ⟨M', a1, a2, a3, a4⟩ := h
  obtain ⟨M1, b1, b2⟩ := hf
  rcases b2 with ⟨b2, b3⟩ | ⟨b2, b3⟩
  · obtain ⟨M2, c1, c2⟩ := a1.split (Nat.zero_le e) (by omega)
    have := b1.det c1
    subst this
    obtain ⟨M3, -, d2, -⟩ := c2.next b2
    rw [b3] at d2; cases d2
  · subst b2
    have := b1.det a1
    subst this
    rcases b3 with b3 | b3
    · rw [a2] at b3; cases b3
    · omega
theorem FailAt.det {v : List Nat} {M : QM} {p e1 e2 : Nat} (h1 : FailAt v M p e1) (h2 : FailAt v M p e2) : e1 = e2 := by
  have key : ∀ {e1 e2 : Nat}, FailAt v M p e1 → FailAt v M p e2 → e1 ≤ e2 → e1 = e2 := by
    intro e1 e2 h1 h2 hle
    obtain ⟨M1, a1, a2⟩ := h1
    obtain ⟨M2, b1, b2⟩ := h2
    by_cases e : e1 = e2
    · exact e
    · obtain ⟨M3, c1, c2⟩ := b1.split a1.1 hle
      have := a1.det c1
      subst this
      obtain ⟨M4, d1, d2, -⟩ := c2.next (by omega)
      rcases a2 with ⟨_, a2⟩ | ⟨a2, _⟩
      · rw [a2] at d2; cases d2
      · omega
  rcases Nat.le_total e1 e2 with h | h
  · exact key h1 h2 h
  · exact (key h2 h1 h).symm
theorem Acc.det {v c1 c2 : List Nat} (h1 : Acc v c1) (h2 : Acc v c2) : c1 = c2 := by
  obtain ⟨M1, a1, a2, a3, a4⟩ := h1
  obtain ⟨M2, b1, b2, b3, b4⟩ := h2
  have := a1.det b1
  subst this
  rw [← a4, ← b4]
theorem pre0 : Pre 0 0 M0 := ⟨rfl, rfl, fun _ o w e => by cases e⟩
/-- what a whole parse says of the machine -/
theorem simH_top {v code : List Nat} {p' : Nat} (h : SimH v 0 0 p' code) (hs : StpR v 0 p') (hv : ∀ p, v.getD p 0 < 256) (hp : p' ≤ v.length) : (p' = v.length ∧ Acc v code) ∨ (p' < v.length ∧ FailAt v M0 0 p') := by
  obtain ⟨M', r1, r2, r3, r4, ⟨pend, q1, q2, q3⟩, r6, r7⟩ := h M0 pre0 rfl
  by_cases e : p' = v.length
  · subst e
    refine Or.inl ⟨rfl, M', r1, r2, r3, ?_⟩
    rw [q1, rel_app _ _ _ (fun o _ => Nat.zero_le _), q3]
    rfl
  · refine Or.inr ⟨by omega, M', r1, ?_⟩
    by_cases h41 : v.getD p' 0 = 41
    · refine Or.inl ⟨by omega, ?_⟩
      unfold qStep qGo
      rw [r2, if_pos rfl, h41, if_neg (by decide), if_pos rfl]
      obtain ⟨x, cs, e2⟩ : ∃ x cs, qc M' = x :: cs := by
        cases hq : qc M' with
        | nil => rw [hq] at r3; cases r3
        | cons x cs => exact ⟨x, cs, rfl⟩
      rw [e2] at r3 ⊢
      have : cs = [] := List.eq_nil_of_length_eq_zero (by have : cs.length + 1 = 1 := r3; omega)
      subst this
      rfl
    · exact Or.inl ⟨by omega, stop_step (by omega) r2 r6 h41 (hs.2 (by omega)) (hs.1 (by omega)) r7 (hv p')⟩
/-- a world in which a text is read -/
def toy (l : List Nat) (ak : Nat → Int32) : ZS := ((fun a => if a = 0 then some (12, 0) else if a = 100 then some (21, 40) else if a = 11 then some (20, 7) else none), (fun a j => if a = 0 then (if j = 12 then nI l.length else if j = 13 then nI 40 else if j = 14 then nI 0 else if j = 15 then -nI 1 else nI 1) else if a = 100 then sx (l.getD j 0) else ak j), (fun _ _ => 0), (fun a j => if a = 0 ∧ j = 11 then some 100 else some 11), 0)
theorem toy_PG {l : List Nat} {ak : Nat → Int32} (hl : l.length ≤ 40) (hv : ∀ p, l.getD p 0 < 256) : PG (toy l ak) 0 100 40 l 40 ak :=
  ⟨rfl, ⟨rfl, rfl, hl, by omega, rfl, rfl, by omega, fun j _ => ⟨rfl, hv j⟩⟩, by omega, rfl, rfl, Or.inr ⟨rfl, fun i _ => rfl⟩⟩
theorem take_all {l : List Nat} (hl : l.length ≤ 40) : l.take 40 = l := List.take_of_length_le hl
theorem Acc.ev {l code : List Nat} (h : Acc l code) (hl : l.length ≤ 40) (hv : ∀ p, l.getD p 0 < 256) (ak : Nat → Int32) : ∃ x, evIs ak code x := by
  have hp := q_parse (N := 10000) (m := 0) (u := 100) (n := 40) (l := l) (t := 40) (ak := ak) (Nat.le_refl _) 100 0 0 0 (toy l ak) (by omega) (by omega) (by omega) (by rw [take_all hl]; omega) (toy_PG hl hv) rfl rfl
  obtain ⟨o, -, -, ho⟩ := hp
  rw [take_all hl] at ho
  rcases ho with ⟨w, p', c2, a1, a2, a3, a4, a5, a6⟩ | ⟨e, b1, b2, b3⟩
  · rcases simH_top a4 a5 hv a2 with ⟨_, c⟩ | ⟨_, c⟩
    · rw [h.det c]; exact ⟨_, a6⟩
    · exact (h.noFail c).elim
  · exact (h.noFail (b3 M0 pre0 rfl)).elim
/-! the fondness of a bird for a word -/
def akb (b : ZB) (w W : Nat) (i : Nat) : Int32 := match i with
  | 0 => nI (bO b w)
  | 1 => nI (bF b w)
  | 2 => nI (bL b w)
  | 3 => nI (bT b w)
  | 4 => nI w
  | 5 => nI (bn b)
  | _ => nI W
def fdC (code : List Nat) (b : ZB) (W : Nat → Nat) (w : Nat) : Int32 := if code = [] then nI (bO b w) * nI 3 - nI (bF b w) + nI (bT b w) * nI 5 else (ev (akb b w (W w)) code []).headD 0
theorem fdC_is {code : List Nat} {b : ZB} {W : Nat → Nat} {w : Nat} {x : Int32} (h : evIs (akb b w (W w)) code x) : fdC code b W w = x := by
  have hne : code ≠ [] := by
    intro e
    have := h.1 []
    rw [e] at this; cases this
  unfold fdC
  rw [if_neg hne, h.1]; rfl
/-- the rule: its text and its code -/
def Rul (l code : List Nat) : Prop := l.length ≤ 40 ∧ (∀ p, l.getD p 0 < 256) ∧ code.length ≤ 40 ∧ (l = [] ∧ code = [] ∨ l ≠ [] ∧ Acc l code)
def RQ (g : ZS) (m ra : Nat) (l : List Nat) : Prop := zgr g m 17 = some ra ∧ zsh g ra = some (21, 40) ∧ zgi g m 19 = nI l.length ∧ ∀ j, j < l.length → zgi g ra j = sx (l.getD j 0)
theorem s_fond12 {N : Nat} (hN : 10000 ≤ N) {g : ZS} {m a p w ra : Nat} {b : ZB} {W : Nat → Nat} {l code : List Nat} (hR : LR m (zh g)) (ha : zsh g a = some (20, 217)) (hp : p < 6) (hw : w < 8) (hb : RB g a (36 * p) b) (hQ : RQ g m ra l) (hRul : Rul l code) (hW : zgi g (m + 3) w = nI (W w)) (d1 : a ≠ m ∧ a ≠ m + 11) (d2 : ra ≠ m ∧ ra ≠ m + 11) : zW (f_X12_fondness N m a (nI p) (nI w) g) (fun o => o.1 = fdC code b W w ∧ zM m (SP m) g o.2) := by
  obtain ⟨q1, q2, q3, q4⟩ := hQ
  obtain ⟨u1, u2, u3, u4⟩ := hRul
  obtain ⟨h1, h2, h3, h4, h5⟩ := hb
  obtain ⟨k1, k2, k3, k4⟩ := h5 w hw
  have s0 := hR.s0
  have s3 := hR.s3
  have s11 := hR.s11
  have r3 := hR.r3
  have r21 := hR.r21
  unfold f_X12_fondness f_X12_of
  rcases u4 with ⟨rfl, rfl⟩ | ⟨u4, u5⟩
  · have q3' : zgi g m 19 = nI 0 := q3
    simp (disch := omega) only [Option.bind_some, Option.map_some, Option.bind_none, Option.bind_fun_none, zrdI, zrdR, zwrI, zwrR, zwrZ, zvs, zald, zast, zlald, zlast, zaald, zlen, sh_sI, sh_sL, sh_sR, gr_sI, gr_sL, gi_sL, gi_sR, gl_sI, gl_sR, sz_sI, sz_sL, sz_sR, gi_sI, gl_sL, gr_sR, nar20, nar22_0, nar22_1, narb0, narb1, nI_clamp, zin_nI, nI_leI, nI_ltI, nI_eq, nI_add, nI_mul, nI_sub, nI_dec, nI_lt0, nI_0le, neg1_lt, neg1_le, neg1_ne, neg1_ne2, reduceIte, eq_self, ite_true, ite_false, true_and, and_true, or_true, true_or, and_self, Nat.reduceEqDiff, Nat.reduceAdd, Nat.reduceMul, Nat.reduceSub, Nat.add_zero, Nat.zero_add, bh_mk, bc_mk, bn_mk, bo_mk, bO_mk, bF_mk, bL_mk, bT_mk, if_pos, if_neg, ng_lt, ng_le, ng_lt2, ng_le2, ng_eq, ng_eq2, ng_nn, ng_dec, ng_dec0, sb_nle, sb_nlt, bI_0, bI_1, bI_t, bI_f, bI_nar, bitW_e, and_false, false_and, Nat.add_sub_cancel, if_false, if_true, c_0, c_1, c_2, c_3, c_4, c_5, c_6, c_7, c_8, c_9, c_10, c_11, c_12, c_13, c_16, c_17, c_20, c_24, c_28, c_36, c_37, c_39, c_40, c_41, c_42, c_43, c_45, c_47, c_48, c_49, c_57, c_59, c_60, c_61, c_62, c_80, c_81, c_97, c_99, c_100, c_104, c_107, c_109, c_115, c_116, c_120, c_216, c_217, c_255, c_256, c_1000, c_2000, c_9999, c_1000000, ha, k1, k2, k4, s0, q3']
    rw [zW_some]
    exact ⟨by unfold fdC; rw [if_pos rfl, nI_mul, nI_mul], zM.rfl⟩
  · have hl0 : 0 < l.length := List.length_pos_iff.mpr u4
    have e9 : ∀ g', zJ (fun x _ => x = m + 11) g g' → zgr g' m 21 = some (m + 11) ∧ zsh g' m = some (12, 0) ∧ zsh g' (m + 11) = some (20, 7) ∧ zsh g' a = some (20, 217) ∧ (∀ j, zgi g' a j = zgi g a j) ∧ (∀ j, zgi g' m j = zgi g m j) ∧ (∀ j, zgi g' (m + 3) j = zgi g (m + 3) j) := fun g' hJ => ⟨by rw [hJ.gr]; exact r21, by rw [hJ.sh]; exact s0, by rw [hJ.sh]; exact s11, by rw [hJ.sh]; exact ha, fun j => hJ.gi (by omega), fun j => hJ.gi (by omega), fun j => hJ.gi (by omega)⟩
    simp only [Option.bind_some, c_0, c_1, c_2, c_3, c_4, c_5, c_6, c_12, c_20, c_28, c_36, c_40, nI_mul, nI_add]
    rw [a20_217 ha (by omega), Option.bind_some, k1, a20_217 ha (by omega), Option.bind_some, k2, a20_217 ha (by omega), Option.bind_some, k4, p_rdI s0, Option.bind_some, q3, if_neg (show ¬ nI l.length = nI 0 from nI_ne0 hl0 (by omega))]
    rw [p_rdR s0, r21, Option.bind_some, w20_7 s11 (by omega), Option.bind_some]
    obtain ⟨g1, hg1⟩ : ∃ x, x = zsetI g (m + 11) 0 (nI (bO b w)) := ⟨_, rfl⟩
    rw [← hg1]
    have J1 : zJ (fun x _ => x = m + 11) g g1 := by rw [hg1]; exact zJ.setI rfl
    obtain ⟨x1, x2, x3, x4, x5, x6, x7⟩ := e9 g1 J1
    rw [p_rdR x2, x1, Option.bind_some, w20_7 x3 (by omega), Option.bind_some]
    clear x1 x2 x3 x4 x5 x6 x7
    obtain ⟨g2, hg2⟩ : ∃ x, x = zsetI g1 (m + 11) 1 (nI (bF b w)) := ⟨_, rfl⟩
    rw [← hg2]
    have J2 : zJ (fun x _ => x = m + 11) g g2 := by rw [hg2]; exact J1.setI' rfl
    obtain ⟨x1, x2, x3, x4, x5, x6, x7⟩ := e9 g2 J2
    rw [p_rdR x2, x1, Option.bind_some, a20_217 x4 (by omega), Option.bind_some, x5, k3, w20_7 x3 (by omega), Option.bind_some]
    clear x1 x2 x3 x4 x5 x6 x7
    obtain ⟨g3, hg3⟩ : ∃ x, x = zsetI g2 (m + 11) 2 (nI (bL b w)) := ⟨_, rfl⟩
    rw [← hg3]
    have J3 : zJ (fun x _ => x = m + 11) g g3 := by rw [hg3]; exact J2.setI' rfl
    obtain ⟨x1, x2, x3, x4, x5, x6, x7⟩ := e9 g3 J3
    rw [p_rdR x2, x1, Option.bind_some, w20_7 x3 (by omega), Option.bind_some]
    clear x1 x2 x3 x4 x5 x6 x7
    obtain ⟨g4, hg4⟩ : ∃ x, x = zsetI g3 (m + 11) 3 (nI (bT b w)) := ⟨_, rfl⟩
    rw [← hg4]
    have J4 : zJ (fun x _ => x = m + 11) g g4 := by rw [hg4]; exact J3.setI' rfl
    obtain ⟨x1, x2, x3, x4, x5, x6, x7⟩ := e9 g4 J4
    rw [p_rdR x2, x1, Option.bind_some, w20_7 x3 (by omega), Option.bind_some]
    clear x1 x2 x3 x4 x5 x6 x7
    obtain ⟨g5, hg5⟩ : ∃ x, x = zsetI g4 (m + 11) 4 (nI (w)) := ⟨_, rfl⟩
    rw [← hg5]
    have J5 : zJ (fun x _ => x = m + 11) g g5 := by rw [hg5]; exact J4.setI' rfl
    obtain ⟨x1, x2, x3, x4, x5, x6, x7⟩ := e9 g5 J5
    rw [p_rdR x2, x1, Option.bind_some, a20_217 x4 (by omega), Option.bind_some, x5, h3, w20_7 x3 (by omega), Option.bind_some]
    clear x1 x2 x3 x4 x5 x6 x7
    obtain ⟨g6, hg6⟩ : ∃ x, x = zsetI g5 (m + 11) 5 (nI (bn b)) := ⟨_, rfl⟩
    rw [← hg6]
    have J6 : zJ (fun x _ => x = m + 11) g g6 := by rw [hg6]; exact J5.setI' rfl
    obtain ⟨x1, x2, x3, x4, x5, x6, x7⟩ := e9 g6 J6
    have r3' : zgr g6 m 3 = some (m + 3) := by rw [J6.gr]; exact r3
    have s3' : zsh g6 (m + 3) = some (20, 8) := by rw [J6.sh]; exact s3
    rw [p_rdR x2, x1, Option.bind_some, p_rdR x2, r3', Option.bind_some, a20_8 s3' hw, Option.bind_some, x7, hW, w20_7 x3 (by omega), Option.bind_some]
    clear x1 x2 x3 x4 x5 x6 x7
    obtain ⟨g7, hg7⟩ : ∃ x, x = zsetI g6 (m + 11) 6 (nI (W w)) := ⟨_, rfl⟩
    rw [← hg7]
    have J7 : zJ (fun x _ => x = m + 11) g g7 := by rw [hg7]; exact J6.setI' rfl
    obtain ⟨x1, x2, x3, x4, x5, x6, x7⟩ := e9 g7 J7
    have hak : ∀ i, i < 7 → zgi g7 (m + 11) i = akb b w (W w) i := by
      intro i hi
      rcases (show i = 0 ∨ i = 1 ∨ i = 2 ∨ i = 3 ∨ i = 4 ∨ i = 5 ∨ i = 6 by omega) with rfl | rfl | rfl | rfl | rfl | rfl | rfl
      all_goals (simp only [hg7, hg6, hg5, hg4, hg3, hg2, hg1, gi_sI, true_and, Nat.reduceEqDiff, if_true, if_false, akb])
    clear hg1 hg2 hg3 hg4 hg5 hg6 hg7 J1 J2 J3 J4 J5 J6
    have q1' : zgr g7 m 17 = some ra := by rw [J7.gr]; exact q1
    have q3' : zgi g7 m 19 = nI l.length := by rw [x6]; exact q3
    rw [p_rdR x2, q1', Option.bind_some, p_rdI x2, Option.bind_some, q3', p_vs x2]
    obtain ⟨g8, hg8⟩ : ∃ x, x = zsetI (zsetI (zsetI (zsetI (zsetI (zsetR g7 m 11 (some ra)) m 12 (nI l.length)) m 13 (nI 40)) m 14 (nI 0)) m 15 (-nI 1)) m 20 (nI 1) := ⟨_, rfl⟩
    have hM8 : zM m (SP m) g g8 := by
      rw [hg8]
      exact (((((((J7.toM (m := m)).mono (fun x j z => Or.inr z)).setR').setI' (Or.inl ⟨rfl, by omega⟩)).setI' (Or.inl ⟨rfl, by omega⟩)).setI' (Or.inl ⟨rfl, by omega⟩)).setI' (Or.inl ⟨rfl, by omega⟩)).setI' (Or.inl ⟨rfl, by omega⟩)
    have hb8 : f_X12_begin m ra (nI l.length) (nI 40) g7 = some (zsetI (zsetI (zsetI (zsetI (zsetR g7 m 11 (some ra)) m 12 (nI l.length)) m 13 (nI 40)) m 14 (nI 0)) m 15 (-nI 1)) := by
      unfold f_X12_begin
      rw [p_wrR x2, Option.bind_some, p_wrI (by exact x2), Option.bind_some, p_wrI (by exact x2), Option.bind_some, p_wrI (by exact x2), Option.bind_some, p_wrI (by exact x2), Option.bind_some]
      rfl
    rw [hb8, Option.bind_some, p_wrZ (v := nI 1) (by exact x2) (Or.inr rfl), Option.bind_some, ← hg8]
    have x28 : zsh g8 m = some (12, 0) := by rw [hM8.sh]; exact s0
    have hP : PG g8 m ra 40 l 40 (akb b w (W w)) := by
      refine ⟨x28, ⟨?_, by rw [hM8.sh]; exact q2, u1, by omega, ?_, ?_, by omega, fun j hj => ⟨?_, u2 j⟩⟩, fun e => d2.1 e.symm, ?_, by rw [hM8.sh]; exact s11, Or.inr ⟨?_, fun i hi => ?_⟩⟩
      · rw [hg8]; show zgr (zsetR g7 m 11 (some ra)) m 11 = _; rw [gr_sR, if_pos ⟨rfl, rfl⟩]
      · rw [hg8]; simp only [gi_sI, true_and, Nat.reduceEqDiff, if_true, if_false]
      · rw [hg8]; simp only [gi_sI, true_and, Nat.reduceEqDiff, if_true, if_false]
      · rw [hM8.gi (by omega)]; exact q4 j hj
      · rw [hM8.gr (by omega)]; exact r21
      · rw [hg8]; simp only [gi_sI, true_and, Nat.reduceEqDiff, if_true, if_false]
      · have : m + 11 ≠ m := by omega
        rw [hg8]; simp only [gi_sI, this, false_and, if_false]; exact hak i hi
    have y14 : zgi g8 m 14 = nI 0 := by rw [hg8]; simp only [gi_sI, true_and, Nat.reduceEqDiff, if_true, if_false]
    have y15 : zgi g8 m 15 = -nI 1 := by rw [hg8]; simp only [gi_sI, true_and, Nat.reduceEqDiff, if_true, if_false]
    rw [p_vs x28]
    have hpp := q_parse (N := N) hN 100 0 0 0 g8 (by omega) (by omega) (by omega) (by rw [take_all u1]; omega) hP y14 y15
    refine hpp.bind (fun o ho => ?_)
    obtain ⟨J, ho⟩ := ho
    rw [take_all u1] at ho
    have x29 : zsh o.2 m = some (12, 0) := by rw [J.sh]; exact x28
    rw [p_wrZ (v := nI 0) x29 (Or.inl rfl), Option.bind_some, zW_some]
    refine ⟨?_, (hM8.trans ((J.toM (m := m)).mono (fun x j z => Or.inl ⟨z.1, by omega⟩))).setI' (Or.inl ⟨rfl, by omega⟩)⟩
    rcases ho with ⟨w1, p', c2, a1, a2, a3, a4, a5, a6⟩ | ⟨e, b1, b2, b3⟩
    · rcases simH_top a4 a5 u2 a2 with ⟨_, c⟩ | ⟨_, c⟩
      · rw [u5.det c]; exact (fdC_is a6).symm
      · exact (u5.noFail c).elim
    · exact (u5.noFail (b3 M0 pre0 rfl)).elim
