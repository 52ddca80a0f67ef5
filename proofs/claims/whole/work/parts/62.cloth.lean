/-! ===== cloth, hush ===== -/
theorem or64 : ∀ a, a < 64 → ∀ p, p < 6 → (nI a ||| bitW p = nI (a ||| 2 ^ p) ∧ a ||| 2 ^ p < 64) := by decide +kernel
theorem fold64 {C : Nat → Prop} [DecidablePred C] {k : Nat} (hk : k ≤ 6) : ∃ j, j < 64 ∧ zfold (fun p acc => acc ||| (if C p then nI 0 else bitW p)) k (nI 0) = nI j := by
  refine zfold_inv (fun _ a => ∃ j, j < 64 ∧ a = nI j) ⟨0, by omega, rfl⟩ (fun i y hi h => ?_)
  obtain ⟨j, hj, rfl⟩ := h
  by_cases e : C i
  · rw [if_pos e, or_z]; exact ⟨j, hj, rfl⟩
  · rw [if_neg e]; exact ⟨_, (or64 j hj i (by omega)).2, (or64 j hj i (by omega)).1⟩
theorem clA64 {A : ZA} {k : Nat} (hk : k ≤ 6) : ∃ j, j < 64 ∧ clA A k = nI j := fold64 hk
theorem spA64 {A : ZA} {k : Nat} (hk : k ≤ 6) : ∃ j, j < 64 ∧ spA A k = nI j := fold64 hk
def ctB (b : ZB) : ZB := (bh b, 1 - bc b, bn b, bo b, bO b, bF b, bL b, bT b)
theorem ctB_BI {b : ZB} (hb : BI b) : BI (ctB b) := ⟨hb.1, by show 1 - bc b ≤ 1; omega, hb.2.2.1, hb.2.2.2.1, hb.2.2.2.2⟩
section CT
variable {N x m c : Nat} {g g1 g2 : ZS} {A : ZA} {β : Type} {Q : β → Prop}
theorem CB.cloth {q k : Nat} {b : ZB} (hb : CB g q b) (hk : k = 1 - bc b) : CB (zsetI g q 6 (nI k)) q (ctB b) := by
  have J : zJ (fun a j => a = q ∧ j = 6) g (zsetI g q 6 (nI k)) := zJ.setI ⟨rfl, rfl⟩
  obtain ⟨q1, q2, q3, q4, q5⟩ := hb
  refine ⟨by rw [J.gi (by omega)]; exact q1, by rw [gi_sI, if_pos ⟨rfl, rfl⟩, hk]; rfl, by rw [J.gi (by omega)]; exact q3, by rw [J.gi (by omega)]; exact q4, fun y hy => ?_⟩
  obtain ⟨y1, y2, y3, y4⟩ := q5 y hy
  exact ⟨by rw [J.gi (by omega)]; exact y1, by rw [J.gi (by omega)]; exact y2, by rw [J.gi (by omega)]; exact y3, by rw [J.gi (by omega)]; exact y4⟩
theorem RB.cloth {a o k : Nat} {b : ZB} (hb : RB g a o b) (hk : k = 1 - bc b) : RB (zsetI g a (o + 1) (nI k)) a o (ctB b) := by
  have J : zJ (fun x j => x = a ∧ j = o + 1) g (zsetI g a (o + 1) (nI k)) := zJ.setI ⟨rfl, rfl⟩
  obtain ⟨q1, q2, q3, q4, q5⟩ := hb
  refine ⟨by rw [J.gi (by omega)]; exact q1, by rw [gi_sI, if_pos ⟨rfl, rfl⟩, hk]; rfl, by rw [J.gi (by omega)]; exact q3, by rw [J.gi (by omega)]; exact q4, fun y hy => ?_⟩
  obtain ⟨y1, y2, y3, y4⟩ := q5 y hy
  exact ⟨by rw [J.gi (by omega)]; exact y1, by rw [J.gi (by omega)]; exact y2, by rw [J.gi (by omega)]; exact y3, by rw [J.gi (by omega)]; exact y4⟩
theorem k_cloth (hN : 10000 ≤ N) (v : Int32) : Call (fun x g => f_X11_cloth N x v g) (fun m g => f_X12_cloth N m v g) := call_s (fun x m c g A hC hA hc => by
  have n6 := hA.1.1
  cases hv : rb v 0 (an A) with
  | true =>
    obtain ⟨p, -, hp, rfl⟩ := rb_t hv (by omega)
    have hBp := hA.1.2.2.1 p hp
    have hc1 := hBp.2.1
    obtain ⟨B, hBd⟩ : ∃ B, B = upB (aB A) p (ctB (aB A p)) := ⟨_, rfl⟩
    have hSI : SI (an A) B := by rw [hBd]; exact upB_SI hA.1.2.2.1 (ctB_BI hBp)
    have hdc : ad A ≤ 300 * (c + 1) := by have := hA.1.2.2.2; omega
    obtain ⟨j, hj, ej⟩ := clA64 (A := sS A B (ad A)) n6
    have hj7 := pc64 hj
    refine ⟨nI (pc j), sX A B (ad A), hA.setX hSI hdc, ?_, fun g' hR => ?_⟩
    · unfold Cc f_X11_cloth
      refine c_spare hN hC.1 hA (fun g1 J1 S1 C1 => ?_)
      obtain ⟨b1, b2, b3, -⟩ := c_bird C1 hA hp
      obtain ⟨k, hk⟩ : ∃ k, k = 1 - bc (aB A p) := ⟨_, rfl⟩
      obtain ⟨g2, hg2⟩ : ∃ g2, g2 = zsetI g1 (x + 23 + 2 + 5 * p) 6 (nI k) := ⟨_, rfl⟩
      have J2 : zJ (fun a j => a = x + 23 + 2 + 5 * p ∧ j = 6) g1 g2 := by rw [hg2]; exact zJ.setI ⟨rfl, rfl⟩
      have D2 : CB g2 (x + 23 + 2 + 5 * p) (ctB (aB A p)) := by rw [hg2]; exact b3.cloth hk
      have D : CS g2 (x + 23) (an A) (ad A) (ame A) B ∧ ∀ q, an A ≤ q → q < 6 → CB g2 (x + 23 + 2 + 5 * q) b0 := ⟨by rw [hBd]; exact C1.2.2.2.2.2.1.1.up (J2.mono (fun a j z => by omega)) D2, fun q h1 h2 => (C1.2.2.2.2.2.1.2 q h1 h2).keepJ J2 (fun a j z y => by have := z.1; have := z.2.1; omega)⟩
      have C2 : CJ x g2 (sS A B (ad A)) := C1.setS hA (J2.mono (fun a j z => by omega)) D
      have A2 : AI (sS A B (ad A)) c := hA.setSd hSI hA.1.2.2.2
      have hcov : f_X11_cover N x (nI p) g1 = some (nI (pc j), g2) := by
        have last : zwrZ g1 (x + 23 + 2 + 5 * p) 0 6 (nI k) = some g2 → f_X11_cover_33 N x (x + 23 + 2 + 5 * p) (nI k) g1 = some (nI (pc j), g2) := by
          intro hw
          unfold f_X11_cover_33
          rw [hw, Option.bind_some, p_rdR C2.1.s0, C2.1.r0_6, Option.bind_some, p_vs C2.1.SL23.f.1, e_covered hN C2 A2, Option.bind_some, show clA (sS A B (ad A)) (an (sS A B (ad A))) = nI j from ej, e_bc64 hj, Option.bind_some]
        unfold f_X11_cover
        rw [p_vs C1.1.s0, e_ip11 C1 hA, Option.bind_some, if_neg (bI_ne hv), p_rdR C1.1.s0, C1.1.r0_6, Option.bind_some, p_rdR C1.1.SL23.f.1, C1.1.SL23.f.2.2.1, Option.bind_some, a25_6 C1.1.SL23.f.2.1 (by omega), b1, Option.bind_some, p_rdI b2.f.1, Option.bind_some, b3.2.1]
        by_cases e : bc (aB A p) = 0
        · have hk1 : k = 1 := by omega
          subst hk1
          rw [e, if_pos (show nI 0 = 0 from rfl)]
          exact last (by rw [hg2]; exact p_wrZ1 b2.f.1)
        · have hk0 : k = 0 := by omega
          subst hk0
          rw [show bc (aB A p) = 1 by omega, if_neg (by decide)]
          exact last (by rw [hg2]; exact p_wrZ0 b2.f.1)
      refine w_vs C1.1.s0 (w_eq hcov (w_vs C2.1.s0 ?_))
      refine (c_remembered (d := ad A) (B := B) (g1 := g1) (g2 := g2) (l := aR A) hN (by omega) C1 hA hSI hdc (J2.mono (fun a j z => by omega)) D (S1.keep n6 J2 (fun a j z => by have := z.1; have := z.2; omega)) ((hC.2.stay J1 (fun a j z => by have := z.1; have := z.2; omega)).stay J2 (fun a j z => by omega))).bind (fun o ho => ?_)
      obtain ⟨o1, o2, o3, o4⟩ := ho
      exact zW_some.mpr ⟨o1, ((J1.toX (fun a j z => by have := z.1; have := z.2; omega)).trans (J2.toX (fun a j z => by omega))).trans o2, o3, o4⟩
    · unfold Rc f_X12_cloth f_X12_of
      refine r_start hR hA (fun g1 J0 hR1 _ => ?_)
      refine w_vs hR1.1.1.s0 (w_eq (e_ip hR1.1 hA) ?_)
      rw [if_neg (bI_ne hv)]
      refine r_past hN hR1.1 hA (fun g2 J2 R2 => ?_)
      have hB2 := R2.2.2.2.2.2.2.1.2.2
      have eb := (hB2.2 p hp).2.1
      refine w_rdR R2.1.s0 R2.1.r0 (w_eq rfl ?_)
      refine w_rdR R2.1.s0 R2.1.r0 (w_eq rfl ?_)
      rw [c_36, c_1, nI_mul, nI_add, a20_217 R2.1.s1 (by omega), show zgi g2 (m + 1) (36 * p + 1) = nI (bc (aB A p)) from eb, Option.bind_some, nI_sub hc1, w20_217 R2.1.s1 (by omega), Option.bind_some]
      have J3 : zJ (fun a j => a = m + 1 ∧ j = 36 * p + 1) g2 (zsetI g2 (m + 1) (36 * p + 1) (nI (1 - bc (aB A p)))) := zJ.setI ⟨rfl, rfl⟩
      have R3 : RJ m (zsetI g2 (m + 1) (36 * p + 1) (nI (1 - bc (aB A p)))) (sX A B (ad A)) := by
        rw [hBd]
        exact R2.setS hA.past ((J3.toM (m := m)).mono (fun a j z => by omega)) (hB2.up (by omega) (J3.mono (fun a j z => by omega)) ((hB2.2 p hp).cloth rfl))
      have A3 : AI (sX A B (ad A)) (c + 1) := hA.setX hSI hdc
      refine w_vs R3.1.s0 (w_eq (e_cloths hN R3 A3) ?_)
      rw [show clA (sX A B (ad A)) (an (sX A B (ad A))) = nI j from ej, e_bc64 hj, Option.bind_some, zW_some]
      exact ⟨rfl, ((J0.toX (fun a j z => scm_in z) (by omega)).trans (J2.toX (fun a j z => by omega))).trans (J3.toX (fun a j z => by omega)), R3, (hR1.2.keepM (J2.toM (m := m)) (by omega) (fun j => by omega)).keepM (J3.toM (m := m)) (by omega) (fun j => by omega)⟩
  | false =>
    refine ⟨-1, A, hA.mono (Nat.le_succ c), ?_, fun g' hR => ?_⟩
    · unfold Cc f_X11_cloth
      refine c_spare hN hC.1 hA (fun g1 J1 S1 C1 => ?_)
      have hcov : f_X11_cover N x v g1 = some (-1, g1) := by
        unfold f_X11_cover
        rw [p_vs C1.1.s0, e_ip11 C1 hA, Option.bind_some, if_pos (bI_eq hv)]
      refine w_vs C1.1.s0 (w_eq hcov (w_vs C1.1.s0 (w_eq (e_remN (show (-1 : Int32) < 0 by decide)) ?_)))
      exact c_refused hC J1 C1
    · unfold Rc f_X12_cloth
      refine r_start hR hA (fun g1 J0 hR1 _ => ?_)
      refine w_vs hR1.1.1.s0 (w_eq (e_ip hR1.1 hA) ?_)
      rw [if_pos (bI_eq hv), zW_some]
      exact ⟨rfl, J0.toX (fun a j z => scm_in z) (by omega), hR1⟩)
def hsB (b : ZB) : ZB := (bh b, bc b, bn b, 0, bO b, bF b, bL b, bT b)
theorem hsB_BI {b : ZB} (hb : BI b) : BI (hsB b) := ⟨hb.1, hb.2.1, hb.2.2.1, Nat.zero_le _, hb.2.2.2.2⟩
theorem CB.hush {q : Nat} {b : ZB} (hb : CB g q b) : CB (zsetI g q 8 (nI 0)) q (hsB b) := by
  have J : zJ (fun a j => a = q ∧ j = 8) g (zsetI g q 8 (nI 0)) := zJ.setI ⟨rfl, rfl⟩
  obtain ⟨q1, q2, q3, q4, q5⟩ := hb
  refine ⟨by rw [J.gi (by omega)]; exact q1, by rw [J.gi (by omega)]; exact q2, by rw [J.gi (by omega)]; exact q3, by rw [gi_sI, if_pos ⟨rfl, rfl⟩]; rfl, fun y hy => ?_⟩
  obtain ⟨y1, y2, y3, y4⟩ := q5 y hy
  exact ⟨by rw [J.gi (by omega)]; exact y1, by rw [J.gi (by omega)]; exact y2, by rw [J.gi (by omega)]; exact y3, by rw [J.gi (by omega)]; exact y4⟩
theorem RB.hush {a o : Nat} {b : ZB} (hb : RB g a o b) : RB (zsetI g a (o + 3) (nI 0)) a o (hsB b) := by
  have J : zJ (fun x j => x = a ∧ j = o + 3) g (zsetI g a (o + 3) (nI 0)) := zJ.setI ⟨rfl, rfl⟩
  obtain ⟨q1, q2, q3, q4, q5⟩ := hb
  refine ⟨by rw [J.gi (by omega)]; exact q1, by rw [J.gi (by omega)]; exact q2, by rw [J.gi (by omega)]; exact q3, by rw [gi_sI, if_pos ⟨rfl, rfl⟩]; rfl, fun y hy => ?_⟩
  obtain ⟨y1, y2, y3, y4⟩ := q5 y hy
  exact ⟨by rw [J.gi (by omega)]; exact y1, by rw [J.gi (by omega)]; exact y2, by rw [J.gi (by omega)]; exact y3, by rw [J.gi (by omega)]; exact y4⟩
/-- the birds before the i-th are changed -/
def mpB (f : ZB → ZB) (B : Nat → ZB) (i : Nat) : Nat → ZB := fun q => if q < i then f (B q) else B q
theorem mpB_succ {f : ZB → ZB} {B : Nat → ZB} {i : Nat} : mpB f B (i + 1) = upB (mpB f B i) i (f (B i)) := funext (fun q => by
  unfold mpB upB
  by_cases e : q = i
  · subst e; rw [if_pos (by omega), if_pos rfl]
  · rw [if_neg e]
    dsimp only
    by_cases e' : q < i
    · rw [if_pos e', if_pos (by omega)]
    · rw [if_neg e', if_neg (by omega)])
theorem mpB_zero {f : ZB → ZB} {B : Nat → ZB} : mpB f B 0 = B := funext (fun q => if_neg (by omega))
theorem mpB_i {f : ZB → ZB} {B : Nat → ZB} {i : Nat} : mpB f B i i = B i := if_neg (by omega)
theorem mpB_SI {f : ZB → ZB} {B : Nat → ZB} {i k : Nat} (hf : ∀ b, BI b → BI (f b)) (h : SI k B) : SI k (mpB f B i) := fun q hq => by
  unfold mpB
  split
  · exact hf _ (h q hq)
  · exact h q hq
/-- the class silences -/
theorem c_silence {j : Nat} (hN : 10000 ≤ N) (hC : CJ x g A) (hA : AI A c) (hj : j < 64) (ej : spA A (an A) = nI j) : zW (f_X11_silence N x g) (fun o => o.1 = nI (pc j) ∧ zJ (fun a j => x + 25 ≤ a ∧ a < x + 55) g o.2 ∧ CS o.2 (x + 23) (an A) (ad A) (ame A) (mpB hsB (aB A) (an A)) ∧ ∀ q, an A ≤ q → q < 6 → CB o.2 (x + 23 + 2 + 5 * q) b0) := by
  have n6 := hA.1.1
  have hL := hC.1
  unfold f_X11_silence
  refine w_rdR hL.s0 hL.r0_6 (w_vs hL.SL23.f.1 (w_eq (e_spoken hN hC hA) ?_))
  rw [ej, e_bc64 hj, Option.bind_some, c_0]
  refine zW_forI (fun i g' => zJ (fun a j => x + 25 ≤ a ∧ a < x + 55) g g' ∧ CS g' (x + 23) (an A) (ad A) (ame A) (mpB hsB (aB A) i) ∧ ∀ q, an A ≤ q → q < 6 → CB g' (x + 23 + 2 + 5 * q) b0) (an A) (fun i g' hi hI => ?_) (fun g' hI => ?_) (by omega) (Nat.zero_le _) ⟨zJ.rfl, by rw [mpB_zero]; exact hC.2.2.2.2.2.1.1, hC.2.2.2.2.2.1.2⟩
  · obtain ⟨J1, D1, E1⟩ := hI
    obtain ⟨b1, b2, -⟩ := c_bird hC hA hi
    have s0 : zsh g' x = some (11, 0) := by rw [J1.sh]; exact hL.s0
    have r6 : zgr g' x 6 = some (x + 23) := by rw [J1.gr]; exact hL.r0_6
    have s23 : zsh g' (x + 23) = some (6, 0) := by rw [J1.sh]; exact hL.SL23.f.1
    have sb : zsh g' (x + 23 + 2 + 5 * i) = some (0, 0) := by rw [J1.sh]; exact b2.f.1
    have hb := (D1.2.2 i hi).1
    rw [mpB_i] at hb
    show zW (f_X11_silence_13 N x (nI (pc j)) (nI i) g') _
    unfold f_X11_silence_13
    refine w_rdR s0 r6 (w_rdI s23 D1.1 ?_)
    rw [if_neg (nI_ge hi (by omega))]
    refine w_rdR s0 r6 (w_rdR s23 (by rw [J1.gr]; exact hL.SL23.f.2.2.1) ?_)
    rw [a25_6 (by rw [J1.sh]; exact hL.SL23.f.2.1) (by omega), show zgr g' (x + 23 + 1) i = some (x + 23 + 2 + 5 * i) by rw [J1.gr]; exact b1, Option.bind_some, p_wrI sb, Option.bind_some, zW_some, zI_inl, c_1, nI_add, c_0]
    have J2 : zJ (fun a j => a = x + 23 + 2 + 5 * i ∧ j = 8) g' (zsetI g' (x + 23 + 2 + 5 * i) 8 (nI 0)) := zJ.setI ⟨rfl, rfl⟩
    refine ⟨rfl, J1.trans (J2.mono (fun a j z => by omega)), ?_, fun q h1 h2 => (E1 q h1 h2).keepJ J2 (fun a j z y => by have := z.1; have := z.2.1; omega)⟩
    rw [mpB_succ]
    exact D1.up (J2.mono (fun a j z => by omega)) hb.hush
  · obtain ⟨J1, D1, E1⟩ := hI
    show zW (f_X11_silence_13 N x (nI (pc j)) (nI (an A)) g') _
    unfold f_X11_silence_13
    refine w_rdR (by rw [J1.sh]; exact hL.s0) (by rw [J1.gr]; exact hL.r0_6) (w_rdI (by rw [J1.sh]; exact hL.SL23.f.1) D1.1 ?_)
    rw [if_pos (nI_le (Nat.le_refl _) (by omega)), Option.map_some, zW_some, zI_inr]
    exact ⟨rfl, J1, D1, E1⟩
/-- the reference silences -/
theorem r_goHush (hN : 10000 ≤ N) (hR : RJ m g A) (hA : AI A c) : zW (f_X12_goHush N m g) (fun g' => zJ (fun a _ => a = m + 1) g g' ∧ RN g' (m + 1) (an A) (ad A) (mpB hsB (aB A) (an A))) := by
  have n6 := hA.1.1
  have hL := hR.1
  unfold f_X12_goHush
  rw [c_0]
  refine zW_forI (fun i g' => zJ (fun a _ => a = m + 1) g g' ∧ RN g' (m + 1) (an A) (ad A) (mpB hsB (aB A) i)) (an A) (fun i g' hi hI => ?_) (fun g' hI => ?_) (by omega) (Nat.zero_le _) ⟨zJ.rfl, by rw [mpB_zero]; exact hR.2.2.2.2.2.2.1.2.2⟩
  · obtain ⟨J1, D1⟩ := hI
    have hb := D1.2 i hi
    rw [mpB_i] at hb
    show zW (f_X12_goHush_2 N m (nI i) g') _
    unfold f_X12_goHush_2 f_X12_of
    refine w_rdI (by rw [J1.sh]; exact hL.s0) (show zgi g' m 1 = nI (an A) by rw [J1.gi (by omega)]; exact hR.2.2.2.2.2.2.1.1) ?_
    rw [if_neg (nI_ge hi (by omega))]
    refine w_rdR (by rw [J1.sh]; exact hL.s0) (by rw [J1.gr]; exact hL.r0) (w_eq rfl ?_)
    rw [c_36, c_3, nI_mul, nI_add, w20_217 (by rw [J1.sh]; exact hL.s1) (by omega), Option.bind_some, zW_some, zI_inl, c_1, nI_add, c_0]
    have J2 : zJ (fun a j => a = m + 1 ∧ j = 36 * i + 3) g' (zsetI g' (m + 1) (36 * i + 3) (nI 0)) := zJ.setI ⟨rfl, rfl⟩
    refine ⟨rfl, J1.trans (J2.mono (fun a j z => by omega)), ?_⟩
    rw [mpB_succ]
    exact D1.up (by omega) (J2.mono (fun a j z => by omega)) hb.hush
  · obtain ⟨J1, D1⟩ := hI
    show zW (f_X12_goHush_2 N m (nI (an A)) g') _
    unfold f_X12_goHush_2
    refine w_rdI (by rw [J1.sh]; exact hL.s0) (show zgi g' m 1 = nI (an A) by rw [J1.gi (by omega)]; exact hR.2.2.2.2.2.2.1.1) ?_
    rw [if_pos (nI_le (Nat.le_refl _) (by omega)), Option.map_some, zW_some, zI_inr]
    exact ⟨J1, D1⟩
theorem k_hush (hN : 10000 ≤ N) : Call (fun x g => f_X11_hush N x g) (fun m g => f_X12_hush N m g) := call_s (fun x m c g A hC hA hc => by
  have n6 := hA.1.1
  obtain ⟨j, hj, ej⟩ := spA64 (A := A) n6
  have hj7 := pc64 hj
  have hSI : SI (an A) (mpB hsB (aB A) (an A)) := mpB_SI (fun b => hsB_BI) hA.1.2.2.1
  have hdc : ad A ≤ 300 * (c + 1) := by have := hA.1.2.2.2; omega
  by_cases hz : pc j = 0
  · refine ⟨nI (pc j), sS A (mpB hsB (aB A) (an A)) (ad A), (hA.mono (Nat.le_succ c)).setSd hSI hdc, ?_, fun g' hR => ?_⟩
    · unfold Cc f_X11_hush f_X11_hush_31
      refine c_spare hN hC.1 hA (fun g1 J1 S1 C1 => ?_)
      refine w_vs C1.1.s0 ((c_silence hN C1 hA hj ej).bind (fun o ho => ?_))
      obtain ⟨o1, J2, D2⟩ := ho
      rw [o1, if_pos (by rw [c_0]; exact nI_le (by omega) (by omega)), zW_some]
      exact ⟨rfl, (J1.toX (fun a j z => by have := z.1; have := z.2; omega)).trans (J2.toX (fun a j z => by omega)), C1.setS hA (J2.mono (fun a j z => by omega)) D2, (hC.2.stay J1 (fun a j z => by have := z.1; have := z.2; omega)).stay J2 (fun a j z => by omega)⟩
    · unfold Rc f_X12_hush f_X12_hush_25
      refine r_start hR hA (fun g1 J0 hR1 _ => ?_)
      refine w_vs hR1.1.1.s0 (w_eq (e_speakers hN hR1.1 hA) ?_)
      rw [ej, e_bc64 hj, Option.bind_some, if_pos (by rw [c_0]; exact nI_le (by omega) (by omega))]
      refine w_vs hR1.1.1.s0 ((r_goHush hN hR1.1 hA).bind (fun g2 h2 => ?_))
      rw [zW_some]
      exact ⟨rfl, (J0.toX (fun a j z => scm_in z) (by omega)).trans (h2.1.toX (fun a j z => by omega)), hR1.1.setS hA ((h2.1.toM (m := m)).mono (fun a j z => by omega)) h2.2, hR1.2.keepM (h2.1.toM (m := m)) (by omega) (fun j => by omega)⟩
  · refine ⟨nI (pc j), sX A (mpB hsB (aB A) (an A)) (ad A), hA.setX hSI hdc, ?_, fun g' hR => ?_⟩
    · unfold Cc f_X11_hush f_X11_hush_31
      refine c_spare hN hC.1 hA (fun g1 J1 S1 C1 => ?_)
      refine w_vs C1.1.s0 ((c_silence hN C1 hA hj ej).bind (fun o ho => ?_))
      obtain ⟨o1, J2, D2⟩ := ho
      rw [o1, if_neg (by rw [c_0]; exact nI_ge (by omega) (by omega))]
      refine c_past (l := aR A) hN C1 hA hSI hdc (J2.mono (fun a j z => by omega)) D2 (S1.keep n6 J2 (fun a j z => by have := z.1; have := z.2; omega)) ((hC.2.stay J1 (fun a j z => by have := z.1; have := z.2; omega)).stay J2 (fun a j z => by omega)) (fun g3 Z3 C3 X3 => ?_)
      rw [zW_some]
      exact ⟨rfl, ((J1.toX (fun a j z => by have := z.1; have := z.2; omega)).trans (J2.toX (fun a j z => by omega))).trans Z3, C3, X3⟩
    · unfold Rc f_X12_hush f_X12_hush_25
      refine r_start hR hA (fun g1 J0 hR1 _ => ?_)
      refine w_vs hR1.1.1.s0 (w_eq (e_speakers hN hR1.1 hA) ?_)
      rw [ej, e_bc64 hj, Option.bind_some, if_neg (by rw [c_0]; exact nI_ge (by omega) (by omega))]
      refine r_past hN hR1.1 hA (fun g2 J2 R2 => ?_)
      refine w_vs R2.1.s0 ((r_goHush hN R2 hA.past).bind (fun g3 h3 => ?_))
      rw [zW_some]
      exact ⟨rfl, ((J0.toX (fun a j z => scm_in z) (by omega)).trans (J2.toX (fun a j z => by omega))).trans (h3.1.toX (fun a j z => by omega)), R2.setS hA.past ((h3.1.toM (m := m)).mono (fun a j z => by omega)) h3.2, (hR1.2.keepM (J2.toM (m := m)) (by omega) (fun j => by omega)).keepM (h3.1.toM (m := m)) (by omega) (fun j => by omega)⟩)
end CT
