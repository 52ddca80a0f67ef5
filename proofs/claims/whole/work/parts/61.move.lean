/-! ===== what is done and remembered; move ===== -/
def upB (B : Nat → ZB) (p : Nat) (b : ZB) : Nat → ZB := fun q => if q = p then b else B q
theorem upB_p {B : Nat → ZB} {p : Nat} {b : ZB} : upB B p b p = b := if_pos rfl
theorem upB_n {B : Nat → ZB} {p q : Nat} {b : ZB} (h : q ≠ p) : upB B p b q = B q := if_neg h
theorem upB_SI {B : Nat → ZB} {k p : Nat} {b : ZB} (h : SI k B) (hb : BI b) : SI k (upB B p b) := fun q hq => by
  by_cases e : q = p
  · rw [e, upB_p]; exact hb
  · rw [upB_n e]; exact h q hq
theorem CS.up {g g' : ZS} {s k d p : Nat} {me : Nat → Nat} {B : Nat → ZB} {b : ZB} (h : CS g s k d me B) (hJ : zJ (Sb (s + 2 + 5 * p)) g g') (hb : CB g' (s + 2 + 5 * p) b) : CS g' s k d me (upB B p b) := by
  obtain ⟨h1, h2, h3⟩ := h
  refine ⟨by rw [hJ.gi (by omega)]; exact h1, by rw [hJ.gi (by omega)]; exact h2, fun q hq => ⟨?_, by rw [hJ.gi (by omega)]; exact (h3 q hq).2⟩⟩
  by_cases e : q = p
  · rw [e, upB_p]; exact hb
  · rw [upB_n e]; exact (h3 q hq).1.keepJ hJ (fun a j z y => by have := z.1; have := z.2.1; have := y.1; have := y.2.1; omega)
theorem RN.up {g g' : ZS} {a n d p : Nat} {B : Nat → ZB} {b : ZB} (h : RN g a n d B) (hp : p < 6) (hJ : zJ (Sp a (36 * p)) g g') (hb : RB g' a (36 * p) b) : RN g' a n d (upB B p b) := by
  refine ⟨by rw [hJ.gi (by omega)]; exact h.1, fun q hq => ?_⟩
  by_cases e : q = p
  · rw [e, upB_p]; exact hb
  · rw [upB_n e]; exact (h.2 q hq).keepJ hJ (fun j x y z => by have := z.2.1; have := z.2.2; omega)
abbrev sX (A : ZA) (B : Nat → ZB) (d : Nat) : ZA := sU (sS A B d) (pU (aU A) (aB A, ad A))
theorem AI.setX {A : ZA} {c d : Nat} {B : Nat → ZB} (h : AI A c) (hB : SI (an A) B) (hd : d ≤ 300 * (c + 1)) : AI (sX A B d) (c + 1) := by
  have h' := h.mono (Nat.le_succ c)
  have hU := pU_AI (A := A) (c := c + 1) h'.2.2.2.2.2.2.1.1 h'.2.2.2.2.2.2.1.2 h'.1.2.2.1 h'.1.2.2.2
  obtain ⟨⟨a1, a2, -, -⟩, a3⟩ := h'
  exact AI.setU (A := sS A B d) ⟨⟨a1, a2, hB, hd⟩, a3⟩ hU
theorem AI.setSd {A : ZA} {c d : Nat} {B : Nat → ZB} (h : AI A c) (hB : SI (an A) B) (hd : d ≤ 300 * c) : AI (sS A B d) c := by
  obtain ⟨⟨a1, a2, -, -⟩, a3⟩ := h
  exact ⟨⟨a1, a2, hB, hd⟩, a3⟩
theorem rb_nI {k n : Nat} (h : k < n) (h2 : n < 1000000) : rb (nI k) 0 n = true := by
  rw [rb_n (by omega)]; exact decide_eq_true ⟨Nat.zero_le _, h⟩
section MV
variable {N x m c : Nat} {g g1 g2 : ZS} {A : ZA} {β : Type} {Q : β → Prop}
/-- the class remembers what lies in spare, after now has changed -/
theorem c_past {d : Nat} {B : Nat → ZB} {l : List Int64} {k : ZS → Option β} (hN : 10000 ≤ N) (C1 : CJ x g1 A) (hA : AI A c) (hB : SI (an A) B) (hd : d ≤ 300 * (c + 1)) (hJ : zJ (fun a j => Scr x a j ∨ x + 23 ≤ a ∧ a < x + 55) g1 g2) (D : CS g2 (x + 23) (an A) d (ame A) B ∧ ∀ p, an A ≤ p → p < 6 → CB g2 (x + 23 + 2 + 5 * p) b0) (S : CS g2 (x + 55) (an A) (ad A) (ame A) (aB A)) (hX : XR g2 (x + 3) (x + 4) l) (hk : ∀ g', zX x (x + 581) g2 g' → CJ x g' (sX A B d) → XR g' (x + 3) (x + 4) l → zW (k g') Q) : zW ((zrdR g2 x 11 8).bind fun v1 => (zrdR g2 x 11 7).bind fun v2 => zvs g2 v1 4 <| (f_X4_add N v1 v2 g2).bind k) Q := by
  have C2 : CJ x g2 (sS A B d) := C1.setS hA hJ D
  have A2 : AI (sS A B d) (c + 1) := (hA.mono (Nat.le_succ c)).setSd hB hd
  refine w_rdR C2.1.s0 C2.1.r0_8 (w_rdR C2.1.s0 C2.1.r0_7 (w_vs C2.1.s87 ?_))
  refine (c_pastAdd (A := sS A B d) (B := aB A) (d := ad A) hN C2 hX A2 S hA.1.2.2.1).bind (fun g3 h3 => ?_)
  exact hk g3 h3.2.2.1 h3.1 h3.2.1
theorem c_remembered {a d : Nat} {B : Nat → ZB} {l : List Int64} (hN : 10000 ≤ N) (ha : a < 1000000) (C1 : CJ x g1 A) (hA : AI A c) (hB : SI (an A) B) (hd : d ≤ 300 * (c + 1)) (hJ : zJ (fun a j => Scr x a j ∨ x + 23 ≤ a ∧ a < x + 55) g1 g2) (D : CS g2 (x + 23) (an A) d (ame A) B ∧ ∀ p, an A ≤ p → p < 6 → CB g2 (x + 23 + 2 + 5 * p) b0) (S : CS g2 (x + 55) (an A) (ad A) (ame A) (aB A)) (hX : XR g2 (x + 3) (x + 4) l) : zW (f_X11_remembered N x (nI a) g2) (fun o => o.1 = nI a ∧ zX x (x + 581) g2 o.2 ∧ CJ x o.2 (sX A B d) ∧ XR o.2 (x + 3) (x + 4) l) := by
  unfold f_X11_remembered f_X11_remembered_15
  rw [if_neg (by rw [c_0]; exact nI_nlt (by omega) (by omega))]
  refine c_past hN C1 hA hB hd hJ D S hX (fun g' Z C X => ?_)
  exact zW_some.mpr ⟨rfl, Z, C, X⟩
/-- the reference remembers now -/
theorem r_past {k : ZS → Option β} (hN : 10000 ≤ N) (R1 : RJ m g1 A) (hA : AI A c) (hk : ∀ g', zJ (fun x j => x = m + 15 ∨ x = m ∧ j = 26) g1 g' → RJ m g' (sU A (pU (aU A) (aB A, ad A))) → zW (k g') Q) : zW ((zrdR g1 m 12 0).bind fun v3 => zvs g1 m 12 <| (f_X12_remember N m v3 g1).bind k) Q := by
  refine w_rdR R1.1.s0 R1.1.r0 (w_vs R1.1.s0 ?_)
  refine (s_remember hN R1.1 R1.1.s1 R1.2.2.2.2.2.2.2.1 R1.2.2.2.2.2.2.1.2.2 hA.1.1 (by omega)).bind (fun g2 h2 => ?_)
  exact hk g2 h2.1 (R1.setU hA (h2.1.toM.mono (fun a j z => by omega)) h2.2)
theorem AI.past (hA : AI A c) : AI (sU A (pU (aU A) (aB A, ad A))) c := hA.setU (pU_AI (A := A) hA.2.2.2.2.2.2.1.1 hA.2.2.2.2.2.2.1.2 hA.1.2.2.1 hA.1.2.2.2)
/-- a refusal after spare was laid -/
theorem c_refused {a : Int32} (hC : CI x g A) (J1 : zJ (Ss (x + 55)) g g1) (C1 : CJ x g1 A) : zW (some (a, g1)) (fun o => o.1 = a ∧ zX x (x + 581) g o.2 ∧ CI x o.2 A) := zW_some.mpr ⟨rfl, J1.toX (fun a j z => by have := z.1; have := z.2; omega), C1, hC.2.stay J1 (fun a j z => by have := z.1; have := z.2; omega)⟩
theorem e_remN {v : Int32} (hv : v < 0) : f_X11_remembered N x v g = some (v, g) := by
  unfold f_X11_remembered f_X11_remembered_15
  rw [if_pos hv]
def mvB (b : ZB) (h : Nat) : ZB := (h, bc b, bn b, bo b, bO b, bF b, bL b, bT b)
theorem mvB_BI {b : ZB} {h : Nat} (hb : BI b) (hh : h < 4) : BI (mvB b h) := ⟨hh, hb.2.1, hb.2.2.1, hb.2.2.2.1, hb.2.2.2.2⟩
theorem CB.move {q h : Nat} {b : ZB} (hb : CB g q b) : CB (zsetI g q 4 (nI h)) q (mvB b h) := by
  have J : zJ (fun a j => a = q ∧ j = 4) g (zsetI g q 4 (nI h)) := zJ.setI ⟨rfl, rfl⟩
  obtain ⟨q1, q2, q3, q4, q5⟩ := hb
  refine ⟨by rw [gi_sI, if_pos ⟨rfl, rfl⟩]; rfl, by rw [J.gi (by omega)]; exact q2, by rw [J.gi (by omega)]; exact q3, by rw [J.gi (by omega)]; exact q4, fun y hy => ?_⟩
  obtain ⟨y1, y2, y3, y4⟩ := q5 y hy
  exact ⟨by rw [J.gi (by omega)]; exact y1, by rw [J.gi (by omega)]; exact y2, by rw [J.gi (by omega)]; exact y3, by rw [J.gi (by omega)]; exact y4⟩
theorem RB.move {a o h : Nat} {b : ZB} (hb : RB g a o b) : RB (zsetI g a o (nI h)) a o (mvB b h) := by
  have J : zJ (fun x j => x = a ∧ j = o) g (zsetI g a o (nI h)) := zJ.setI ⟨rfl, rfl⟩
  obtain ⟨q1, q2, q3, q4, q5⟩ := hb
  refine ⟨by rw [gi_sI, if_pos ⟨rfl, rfl⟩]; rfl, by rw [J.gi (by omega)]; exact q2, by rw [J.gi (by omega)]; exact q3, by rw [J.gi (by omega)]; exact q4, fun y hy => ?_⟩
  obtain ⟨y1, y2, y3, y4⟩ := q5 y hy
  exact ⟨by rw [J.gi (by omega)]; exact y1, by rw [J.gi (by omega)]; exact y2, by rw [J.gi (by omega)]; exact y3, by rw [J.gi (by omega)]; exact y4⟩
theorem e_bringN {v u : Int32} (hC : CJ x g A) (hA : AI A c) (h : ¬ (rb v 0 (an A) = true ∧ rb u 0 4 = true)) : f_X11_bring (x + 23) v u g = some (-1, g) := by
  have n6 := hA.1.1
  unfold f_X11_bring f_X11_bring_15
  rw [p_vs hC.1.SL23.f.1, e_isIn hC.1.SL23.f.1 hC.2.2.2.2.2.1.1.1 (by omega), Option.bind_some]
  cases hv : rb v 0 (an A) with
  | false => rw [if_pos (bI_eq rfl)]
  | true => rw [if_neg (bI_ne rfl), e_ih11, Option.bind_some, if_pos (bI_eq (Bool.eq_false_iff.mpr (fun hu => h ⟨hv, hu⟩)))]
theorem e_bringY {p h : Nat} (hC : CJ x g A) (hA : AI A c) (hp : p < an A) (hh : h < 4) : f_X11_bring (x + 23) (nI p) (nI h) g = if bh (aB A p) = h then some (-2, g) else some (nI (bh (aB A p)), zsetI g (x + 23 + 2 + 5 * p) 4 (nI h)) := by
  have n6 := hA.1.1
  obtain ⟨b1, b2, b3, b4, -⟩ := c_bird hC hA hp
  have b5 := b4.1
  unfold f_X11_bring
  rw [p_vs hC.1.SL23.f.1, e_isIn hC.1.SL23.f.1 hC.2.2.2.2.2.1.1.1 (by omega), Option.bind_some, if_neg (bI_ne (rb_nI hp (by omega))), e_ih11, Option.bind_some, if_neg (bI_ne (rb_nI hh (by omega))), p_rdR hC.1.SL23.f.1, hC.1.SL23.f.2.2.1, Option.bind_some, a25_6 hC.1.SL23.f.2.1 (by omega), b1, Option.bind_some, p_rdI b2.f.1, Option.bind_some, b3.1]
  by_cases e : bh (aB A p) = h
  · rw [e, if_pos rfl, if_pos rfl]
  · rw [if_neg e, if_neg (fun h => e ((nI_eq (by omega) (by omega)).mp h)), p_wrI b2.f.1, Option.bind_some]
theorem e_refMN {v u : Int32} (hR : RJ m g A) (hA : AI A c) (h : ¬ (rb v 0 (an A) = true ∧ rb u 0 4 = true)) : f_X12_refusesMove m v u g = some (-1) := by
  unfold f_X12_refusesMove f_X12_refusesMove_15
  rw [p_vs hR.1.s0, e_ip hR hA, Option.bind_some]
  cases hv : rb v 0 (an A) with
  | false => rw [if_pos (bI_eq rfl)]
  | true => rw [if_neg (bI_ne rfl), e_ih12, Option.bind_some, if_pos (bI_eq (Bool.eq_false_iff.mpr (fun hu => h ⟨hv, hu⟩)))]
theorem e_refMY {p h : Nat} (hR : RJ m g A) (hA : AI A c) (hp : p < an A) (hh : h < 4) : f_X12_refusesMove m (nI p) (nI h) g = if bh (aB A p) = h then some (-2) else some 0 := by
  have n6 := hA.1.1
  have b5 := (hA.1.2.2.1 p hp).1
  have eb := (hR.2.2.2.2.2.2.1.2.2.2 p hp).1
  unfold f_X12_refusesMove f_X12_refusesMove_37 f_X12_of
  rw [p_vs hR.1.s0, e_ip hR hA, Option.bind_some, if_neg (bI_ne (rb_nI hp (by omega))), e_ih12, Option.bind_some, if_neg (bI_ne (rb_nI hh (by omega))), p_rdR hR.1.s0, hR.1.r0, Option.bind_some, Option.bind_some, c_36, c_0, nI_mul, nI_add, a20_217 hR.1.s1 (by omega), show zgi g (m + 1) (36 * p + 0) = nI (bh (aB A p)) from eb, Option.bind_some]
  by_cases e : bh (aB A p) = h
  · rw [e, if_pos rfl, if_pos rfl]
  · rw [if_neg e, if_neg (fun h => e ((nI_eq (by omega) (by omega)).mp h))]
theorem k_move (hN : 10000 ≤ N) (v u : Int32) : Call (fun x g => f_X11_move N x v u g) (fun m g => f_X12_move N m v u g) := call_s (fun x m c g A hC hA hc => by
  have n6 := hA.1.1
  have noC : ∀ a : Int32, a < 0 → (∀ g1, CJ x g1 A → f_X11_bring (x + 23) v u g1 = some (a, g1)) → Cc x A a g (f_X11_move N x v u g) := by
    intro a ha hb
    unfold Cc f_X11_move
    refine c_spare hN hC.1 hA (fun g1 J1 S1 C1 => ?_)
    refine w_rdR C1.1.s0 C1.1.r0_6 (w_eq (hb g1 C1) (w_vs C1.1.s0 (w_eq (e_remN ha) ?_)))
    exact c_refused hC J1 C1
  have noR : ∀ a : Int32, ¬ 0 ≤ a → (∀ g1, RJ m g1 A → f_X12_refusesMove m v u g1 = some a) → ∀ g', RI m g' A → Rc m A a g' (f_X12_move N m v u g') := by
    intro a ha hb g' hR
    unfold Rc f_X12_move
    refine r_start hR hA (fun g1 J0 hR1 _ => ?_)
    refine w_vs hR1.1.1.s0 (w_eq (hb g1 hR1.1) ?_)
    rw [if_neg ha, zW_some]
    exact ⟨rfl, J0.toX (fun a j z => scm_in z) (by omega), hR1⟩
  by_cases hvu : rb v 0 (an A) = true ∧ rb u 0 4 = true
  · obtain ⟨hv, hu⟩ := hvu
    obtain ⟨p, -, hp, rfl⟩ := rb_t hv (by omega)
    obtain ⟨h, -, hh, rfl⟩ := rb_t hu (by omega)
    have hBp := hA.1.2.2.1 p hp
    have hb4 := hBp.1
    by_cases e : bh (aB A p) = h
    · exact ⟨-2, A, hA.mono (Nat.le_succ c), noC (-2) (by decide) (fun g1 C1 => (e_bringY C1 hA hp hh).trans (if_pos e)), noR (-2) (by decide) (fun g1 R1 => (e_refMY R1 hA hp hh).trans (if_pos e))⟩
    · refine ⟨nI (bh (aB A p)), sX A (upB (aB A) p (mvB (aB A p) h)) (ad A), hA.setX (upB_SI hA.1.2.2.1 (mvB_BI hBp hh)) (by have := hA.1.2.2.2; omega), ?_, fun g' hR => ?_⟩
      · unfold Cc f_X11_move
        refine c_spare hN hC.1 hA (fun g1 J1 S1 C1 => ?_)
        obtain ⟨b1, b2, b3, -⟩ := c_bird C1 hA hp
        refine w_rdR C1.1.s0 C1.1.r0_6 (w_eq ((e_bringY C1 hA hp hh).trans (if_neg e)) ?_)
        have J2 : zJ (fun a j => a = x + 23 + 2 + 5 * p ∧ j = 4) g1 (zsetI g1 (x + 23 + 2 + 5 * p) 4 (nI h)) := zJ.setI ⟨rfl, rfl⟩
        have D2 := b3.move (h := h)
        obtain ⟨g2, hg2⟩ : ∃ g2, g2 = zsetI g1 (x + 23 + 2 + 5 * p) 4 (nI h) := ⟨_, rfl⟩
        rw [← hg2] at J2 D2 ⊢
        refine w_vs (by rw [J2.sh]; exact C1.1.s0) ?_
        have hJ : zJ (Ss (x + 55)) g g1 := J1
        refine (c_remembered (d := ad A) (B := upB (aB A) p (mvB (aB A p) h)) (g1 := g1) (g2 := g2) (l := aR A) hN (by omega) C1 hA (upB_SI hA.1.2.2.1 (mvB_BI hBp hh)) (by have := hA.1.2.2.2; omega) (J2.mono (fun a j z => by omega)) ⟨C1.2.2.2.2.2.1.1.up (J2.mono (fun a j z => by omega)) D2, fun q h1 h2 => (C1.2.2.2.2.2.1.2 q h1 h2).keepJ J2 (fun a j z y => by have := z.1; have := z.2.1; omega)⟩ (S1.keep n6 J2 (fun a j z => by have := z.1; have := z.2; omega)) ((hC.2.stay J1 (fun a j z => by have := z.1; have := z.2; omega)).stay J2 (fun a j z => by omega))).bind (fun o ho => ?_)
        obtain ⟨o1, o2, o3, o4⟩ := ho
        exact zW_some.mpr ⟨o1, ((J1.toX (fun a j z => by have := z.1; have := z.2; omega)).trans (J2.toX (fun a j z => by omega))).trans o2, o3, o4⟩
      · unfold Rc f_X12_move f_X12_of
        refine r_start hR hA (fun g1 J0 hR1 _ => ?_)
        refine w_vs hR1.1.1.s0 (w_eq ((e_refMY hR1.1 hA hp hh).trans (if_neg e)) ?_)
        rw [if_pos (by decide)]
        refine r_past hN hR1.1 hA (fun g2 J2 R2 => ?_)
        have hB2 := R2.2.2.2.2.2.2.1.2.2
        have eb := (hB2.2 p hp).1
        refine w_rdR R2.1.s0 R2.1.r0 (w_eq rfl ?_)
        rw [c_36, c_0, nI_mul, nI_add, a20_217 R2.1.s1 (by omega), Nat.add_zero, Option.bind_some]
        refine w_rdR R2.1.s0 R2.1.r0 (w_eq rfl ?_)
        rw [w20_217 R2.1.s1 (by omega), Option.bind_some, zW_some]
        have J3 : zJ (fun a j => a = m + 1 ∧ j = 36 * p) g2 (zsetI g2 (m + 1) (36 * p) (nI h)) := zJ.setI ⟨rfl, rfl⟩
        refine ⟨eb, ((J0.toX (fun a j z => scm_in z) (by omega)).trans (J2.toX (fun a j z => by omega))).trans (J3.toX (fun a j z => by omega)), R2.setS hA.past ((J3.toM (m := m)).mono (fun a j z => by omega)) (hB2.up (by omega) (J3.mono (fun a j z => by omega)) (hB2.2 p hp).move), (hR1.2.keepM (J2.toM (m := m)) (by omega) (fun j => by omega)).keepM (J3.toM (m := m)) (by omega) (fun j => by omega)⟩
  · exact ⟨-1, A, hA.mono (Nat.le_succ c), noC (-1) (by decide) (fun g1 C1 => e_bringN C1 hA hvu), noR (-1) (by decide) (fun g1 R1 => e_refMN R1 hA hvu)⟩)
end MV
