/-! ===== days ===== -/
def rowL (f : Nat → Int64) : Nat → List Int64
  | 0 => []
  | n + 1 => rowL f n ++ [f n]
theorem rowL_len {f : Nat → Int64} : ∀ n, (rowL f n).length = n
  | 0 => rfl
  | n + 1 => by show (rowL f n ++ [f n]).length = n + 1; rw [List.length_append, rowL_len n]; rfl
/-- how many words q has heard that were new to it -/
def nwB (B B' : Nat → ZB) (q : Nat) : Int64 := (bcI (knB (bO (B' q)) 8 &&& (knB (bO (B q)) 8 ^^^ (-1 : Int32)))).toInt64
section DY
variable {N x m c : Nat} {g g1 g2 g3 g' : ZS} {A : ZA} {B : Nat → ZB} {d : Nat}
theorem c_daysRow (hN : 10000 ≤ N) (hC : CJ x g A) (hA : AI A c) (S : CS g (x + 55) (an A) d (ame A) B) (hI : SI (an A) B) : zW (f_X11_days_48 N x g) (fun o => o.1 = nI (ad A) ∧ zJ (SR (x + 3) (x + 4)) g o.2 ∧ XR o.2 (x + 3) (x + 4) (rowL (nwB B (aB A)) (an A))) := by
  have n6 := hA.1.1
  have hL := hC.1
  unfold f_X11_days_48
  refine w_rdR hL.s0 hL.r0_1 ?_
  rw [c_0, p_wrI hL.s3, Option.bind_some]
  have J0 : zJ (SR (x + 3) (x + 4)) g (zsetI g (x + 3) 1 (nI 0)) := zJ.setI (Or.inl ⟨rfl, rfl⟩)
  refine zW_forI (fun i g' => zJ (SR (x + 3) (x + 4)) g g' ∧ XR g' (x + 3) (x + 4) (rowL (nwB B (aB A)) i)) (an A) (fun i g' hi hI' => ?_) (fun g' hI' => ?_) (by omega) (Nat.zero_le _) ⟨J0, XR.zero⟩
  · obtain ⟨J1, X1⟩ := hI'
    have C1 : CJ x g' A := hC.keep hA J1 (fun a j z => by omega)
    have S1 : CS g' (x + 55) (an A) d (ame A) B := S.keep n6 J1 (fun a j z => by have := z.1; have := z.2; omega)
    obtain ⟨b1, b2, b3, b4, -⟩ := c_bird C1 hA hi
    obtain ⟨p1, p2⟩ := C1.1.SL55.f.2.2.2 i (by omega)
    have len := rowL_len (f := nwB B (aB A)) i
    show zW (f_X11_days_58 N x (nI i) g') _
    unfold f_X11_days_58
    refine w_rdR C1.1.s0 C1.1.r0_6 (w_rdI C1.1.SL23.f.1 C1.2.2.2.2.2.1.1.1 ?_)
    rw [if_neg (nI_ge hi (by omega))]
    refine w_rdR C1.1.s0 C1.1.r0_1 (w_rdR C1.1.s0 C1.1.r0_6 (w_rdR C1.1.SL23.f.1 C1.1.SL23.f.2.2.1 ?_))
    rw [a25_6 C1.1.SL23.f.2.1 (by omega), b1, Option.bind_some]
    refine w_vs b2.f.1 (w_eq (e_known hN b2 b3 b4) ?_)
    refine w_rdR C1.1.s0 C1.1.r0_7 (w_rdR C1.1.SL55.f.1 C1.1.SL55.f.2.2.1 ?_)
    rw [a25_6 C1.1.SL55.f.2.1 (by omega), p1, Option.bind_some]
    refine w_vs p2.f.1 (w_eq (e_known hN p2 (S1.2.2 i hi).1 (hI i hi)) (w_eq e_bcI (w_vs C1.1.s3 ?_)))
    refine (s_add ⟨C1.1.s3, C1.1.s4, C1.1.r3_0⟩ X1 (by omega)).bind (fun g2 h2 => ?_)
    rw [zW_some, zI_inl, c_1, nI_add]
    exact ⟨rfl, J1.trans h2.1, h2.2⟩
  · obtain ⟨J1, X1⟩ := hI'
    have C1 : CJ x g' A := hC.keep hA J1 (fun a j z => by omega)
    show zW (f_X11_days_58 N x (nI (an A)) g') _
    unfold f_X11_days_58
    refine w_rdR C1.1.s0 C1.1.r0_6 (w_rdI C1.1.SL23.f.1 C1.2.2.2.2.2.1.1.1 ?_)
    rw [if_pos (nI_le (Nat.le_refl _) (by omega)), zW_map]
    refine w_rdR C1.1.s0 C1.1.r0_6 (w_rdI C1.1.SL23.f.1 C1.2.2.2.2.2.1.1.2.1 ?_)
    rw [zW_some]
    exact ⟨rfl, J1, X1⟩
theorem r_daysRow (hN : 10000 ≤ N) (hR : RJ m g A) (hA : AI A c) (S : RN g (m + 16) (an A) d B) (hI : SI (an A) B) : zW ((zwrI g m 12 9 (0 : Int32)).bind fun g3 => zloop (fun s => f_X12_days_57 N m s.1 s.2) N ((0 : Int32), g3)) (fun o => o.1 = nI (ad A) ∧ zJ (SW m) g o.2 ∧ RW o.2 m (rowL (nwB B (aB A)) (an A))) := by
  have n6 := hA.1.1
  have hL := hR.1
  rw [c_0, p_wrI hL.s0, Option.bind_some]
  have J0 : zJ (SW m) g (zsetI g m 9 (nI 0)) := zJ.setI (Or.inl ⟨rfl, rfl⟩)
  refine zW_forI (fun i g' => zJ (SW m) g g' ∧ RW g' m (rowL (nwB B (aB A)) i)) (an A) (fun i g' hi hI' => ?_) (fun g' hI' => ?_) (by omega) (Nat.zero_le _) ⟨J0, RW.zero⟩
  · obtain ⟨J1, X1⟩ := hI'
    have R1 : RJ m g' A := hR.keep hA J1.toM (fun a j z => by omega)
    have S1 : RN g' (m + 16) (an A) d B := S.keep n6 J1 (fun j _ => by omega)
    have len := rowL_len (f := nwB B (aB A)) i
    show zW (f_X12_days_57 N m (nI i) g') _
    unfold f_X12_days_57
    refine w_rdI R1.1.s0 R1.2.2.2.2.2.2.1.1 ?_
    rw [if_neg (nI_ge hi (by omega))]
    refine w_rdR R1.1.s0 R1.1.r0 (w_eq (e_heardBits hN R1.1.s1 (by omega) (R1.2.2.2.2.2.2.1.2.2.2 i hi) (hA.1.2.2.1 i hi)) ?_)
    refine w_rdR R1.1.s0 R1.1.r27 (w_eq (e_heardBits hN R1.1.s16 (by omega) (S1.2 i hi) (hI i hi)) (w_eq e_bcI (w_vs R1.1.s0 ?_)))
    refine (s_tell R1.1 X1 (by omega)).bind (fun g2 h2 => ?_)
    rw [zW_some, zI_inl, c_1, nI_add]
    exact ⟨rfl, J1.trans h2.1, h2.2⟩
  · obtain ⟨J1, X1⟩ := hI'
    have R1 : RJ m g' A := hR.keep hA J1.toM (fun a j z => by omega)
    show zW (f_X12_days_57 N m (nI (an A)) g') _
    unfold f_X12_days_57
    refine w_rdI R1.1.s0 R1.2.2.2.2.2.2.1.1 ?_
    rw [if_pos (nI_le (Nat.le_refl _) (by omega)), zW_map]
    refine w_rdR R1.1.s0 R1.1.r0 ?_
    rw [c_216, a20_217 R1.1.s1 (by omega), R1.2.2.2.2.2.2.1.2.2.1, Option.bind_some, zW_some]
    exact ⟨rfl, J1, X1⟩
theorem k_days (hN : 10000 ≤ N) (v : Int32) : Call (fun x g => f_X11_days N x v g) (fun m g => f_X12_days N m v g) := call_s (fun x m c g A hC hA hc => by
  have n6 := hA.1.1
  have hd := bnd hA hc
  cases hv : rb v 0 (60 + 1) with
  | false =>
    refine ⟨-1, A, hA.mono (Nat.le_succ c), ?_, fun g' hR => ?_⟩
    · unfold Cc f_X11_days f_X11_days_10
      rw [c_0, c_60, rngB (by omega) (by omega), if_neg (by rw [hv]; decide), zW_some]
      exact ⟨rfl, zX.rfl, hC⟩
    · unfold Rc f_X12_days
      refine r_start hR hA (fun g1 J0 hR1 _ => ?_)
      rw [c_0, c_60, e_in (by omega) (by omega), Option.bind_some, if_pos (show bI (rb v 0 (60 + 1)) = nI 0 from bI_eq hv), zW_some]
      exact ⟨rfl, J0.toX (fun a j z => scm_in z) (by omega), hR1⟩
  | true =>
    obtain ⟨k, -, hk, rfl⟩ := rb_t hv (by omega)
    obtain ⟨B', hB'⟩ : ∃ B', B' = goB (aH A) k (aB A) (ad A) := ⟨_, rfl⟩
    have hSI : SI (an A) B' := by rw [hB']; exact goB_SI hA.1.2.2.1 k
    have hdc : ad A + k ≤ 300 * (c + 1) := by have := hA.1.2.2.2; omega
    obtain ⟨A1, hA1⟩ : ∃ A1, A1 = if k = 0 then sS A B' (ad A + k) else sX A B' (ad A + k) := ⟨_, rfl⟩
    have a1 : an A1 = an A := by rw [hA1]; split <;> rfl
    have a2 : ame A1 = ame A := by rw [hA1]; split <;> rfl
    have a3 : aB A1 = B' := by rw [hA1]; split <;> rfl
    have a4 : ad A1 = ad A + k := by rw [hA1]; split <;> rfl
    have AI1 : AI A1 (c + 1) := by
      rw [hA1]; split
      · exact (hA.mono (Nat.le_succ c)).setSd hSI hdc
      · exact hA.setX hSI hdc
    refine ⟨nI (ad A + k), sR A1 (rowL (nwB (aB A) B') (an A)), AI1.row (by rw [rowL_len]; omega), ?_, fun g' hR => ?_⟩
    · unfold Cc f_X11_days
      rw [c_0, c_60, rngB (by omega) (by omega), if_pos hv]
      refine c_spare hN hC.1 hA (fun g1 J1 S1 C1 => ?_)
      have hL := C1.1
      refine w_rdR hL.s0 hL.r0_6 (w_vs hL.s0 ((s_passDays hN hL.s0 hL.r0_2 (c_XHl C1) C1.2.2.1 hA.2.1.2 hL.SL23 C1.2.2.2.2.2.1.1 hA.1.2.2.1 n6 (by omega) (by omega) (by omega)).bind (fun o ho => ?_)))
      obtain ⟨-, J2, D2⟩ := ho
      obtain ⟨y, g2⟩ := o
      dsimp only at J2 D2 ⊢
      rw [← hB'] at D2
      have S2 : CS g2 (x + 55) (an A) (ad A) (ame A) (aB A) := S1.keep n6 J2 (fun a j z => by have := z.1; have := z.2; omega)
      have E2 : ∀ q, an A ≤ q → q < 6 → CB g2 (x + 23 + 2 + 5 * q) b0 := fun q h1 h2 => (C1.2.2.2.2.2.1.2 q h1 h2).keepJ J2 (fun a j z y => by have := z.1; have := z.2.1; have := y.1; have := y.2; omega)
      have J2' : zJ (fun a j => Scr x a j ∨ x + 23 ≤ a ∧ a < x + 55) g1 g2 := J2.mono (fun a j z => by have := z.1; have := z.2; omega)
      have C2 : CJ x g2 (sS A B' (ad A + k)) := C1.setS hA J2' ⟨D2, E2⟩
      have A2 : AI (sS A B' (ad A + k)) (c + 1) := (hA.mono (Nat.le_succ c)).setSd hSI hdc
      have Z2 : zX x (x + 581) g g2 := (J1.toX (fun a j z => by have := z.1; have := z.2; omega)).trans (J2.toX (fun a j z => by have := z.1; have := z.2; omega))
      have last : ∀ g3, CJ x g3 A1 → CS g3 (x + 55) (an A) (ad A) (ame A) (aB A) → zX x (x + 581) g2 g3 → zW (f_X11_days_48 N x g3) (fun o => o.1 = nI (ad A + k) ∧ zX x (x + 581) g o.2 ∧ CI x o.2 (sR A1 (rowL (nwB (aB A) B') (an A)))) := by
        intro g3 C3 S3 Z3
        refine (c_daysRow (A := A1) (B := aB A) (d := ad A) hN C3 AI1 (by rw [a1, a2]; exact S3) (by rw [a1]; exact hA.1.2.2.1)).mono (fun o ho => ?_)
        rw [a1, a3, a4] at ho
        exact ⟨ho.1, (Z2.trans Z3).trans (ho.2.1.toX (fun a j z => by omega)), C3.keep AI1 ho.2.1 (fun a j z => by omega), ho.2.2⟩
      by_cases h0 : k = 0
      · rw [if_pos (nI_le (by omega) (by omega))]
        rw [if_pos h0] at hA1
        exact last g2 (by rw [hA1]; exact C2) S2 zX.rfl
      · rw [if_neg (nI_ge (by omega) (by omega))]
        rw [if_neg h0] at hA1
        refine w_rdR C2.1.s0 C2.1.r0_8 (w_rdR C2.1.s0 C2.1.r0_7 (w_vs C2.1.s87 ?_))
        refine (c_pastAdd (A := sS A B' (ad A + k)) (B := aB A) (d := ad A) (l := aR A) hN C2 ((hC.2.stay J1 (fun a j z => by have := z.1; have := z.2; omega)).stay J2 (fun a j z => by have := z.1; have := z.2; omega)) A2 S2 hA.1.2.2.1).bind (fun g3 h3 => ?_)
        obtain ⟨C3, X3, Z3, S3⟩ := h3
        exact last g3 (by rw [hA1]; exact C3) S3 Z3
    · unfold Rc f_X12_days
      refine r_start hR hA (fun g1 J0 hR1 _ => ?_)
      rw [c_0, c_60, e_in (by omega) (by omega), Option.bind_some, if_neg (show ¬ bI (rb (nI k) 0 (60 + 1)) = nI 0 from bI_ne hv)]
      refine w_rdR hR1.1.1.s0 hR1.1.1.r0 (w_rdR hR1.1.1.s0 hR1.1.1.r27 ?_)
      refine (s_lay hN hR1.1.1.s1 hR1.1.1.s16 (by omega) (by omega) (by omega)).bind (fun g2 h2 => ?_)
      obtain ⟨J2, e2⟩ := h2
      have S2 : RN g2 (m + 16) (an A) (ad A) (aB A) := hR1.1.2.2.2.2.2.2.1.2.2.cp n6 e2
      have R2 : RJ m g2 A := hR1.1.keep hA J2.toM (fun a j z => by omega)
      have Z2 : zX m (m + 33) g' g2 := (J0.toX (fun a j z => scm_in z) (by omega)).trans (J2.toX (fun a j z => by omega))
      have last : ∀ g3 U, RJ m g3 (sU A U) → AI (sU A U) c → A1 = sU (sS A B' (ad A + k)) U → RN g3 (m + 16) (an A) (ad A) (aB A) → zX m (m + 33) g2 g3 → zW (f_X12_days_41 N m (nI k) g3) (fun o => o.1 = nI (ad A + k) ∧ zX m (m + 33) g' o.2 ∧ RI m o.2 (sR A1 (rowL (nwB (aB A) B') (an A)))) := by
        intro g3 U R3 A3 eU S3 Z3
        unfold f_X12_days_41
        refine w_rdR R3.1.s0 R3.1.r0 (w_vs R3.1.s0 ?_)
        refine (s_goDays (n := an A) (d := ad A) (B := aB A) (H := aH A) hN R3.1 R3.1.s1 R3.2.2.2.2.1 hA.2.1.2 R3.2.2.2.2.2.2.1.1 R3.2.2.2.2.2.2.1.2.2 hA.1.2.2.1 n6 (by omega) (by omega) (by omega)).bind (fun g4 h4 => ?_)
        obtain ⟨J4, D4⟩ := h4
        have D4' : RN g4 (m + 1) (an A) (ad A + k) B' := by rw [hB']; exact D4
        have R4 : RJ m g4 A1 := by
          rw [eU]
          exact R3.setS A3 ((J4.toM (m := m)).mono (fun a j z => Or.inr z)) D4'
        have S4 : RN g4 (m + 16) (an A) (ad A) (aB A) := S3.keep n6 J4 (fun j _ => by omega)
        refine (r_daysRow (A := A1) (B := aB A) (d := ad A) hN R4 AI1 (by rw [a1]; exact S4) (by rw [a1]; exact hA.1.2.2.1)).mono (fun o ho => ?_)
        rw [a1, a3, a4] at ho
        exact ⟨ho.1, ((Z2.trans Z3).trans (J4.toX (fun a j z => by omega))).trans (ho.2.1.toX (fun a j z => by omega)), R4.keep AI1 ho.2.1.toM (fun a j z => by omega), ho.2.2⟩
      by_cases h0 : k = 0
      · rw [if_pos (nI_le (by omega) (by omega))]
        rw [if_pos h0] at hA1
        exact last g2 (aU A) R2 hA hA1 S2 zX.rfl
      · rw [if_neg (nI_ge (by omega) (by omega))]
        rw [if_neg h0] at hA1
        refine r_past hN R2 hA (fun g3 J3 R3 => ?_)
        exact last g3 _ R3 hA.past hA1 (S2.keep n6 J3 (fun j _ => by omega)) (J3.toX (fun a j z => by omega)))
end DY
