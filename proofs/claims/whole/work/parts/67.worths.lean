/-! ===== worths ===== -/
theorem AI.setW {A : ZA} {c : Nat} {W : Nat → Nat} (h : AI A c) (hW : ∀ w, w < 8 → W w ≤ 9) : AI (sW A W) c := by
  obtain ⟨a1, ⟨-, a2⟩, a3⟩ := h
  exact ⟨a1, ⟨hW, a2⟩, a3⟩
theorem AI.noT {A : ZA} {c : Nat} (h : AI A c) : AI (sT A []) c := h.setT (by simp) (fun p => by simp)
def sm (l : List Nat) : Nat → Nat
  | 0 => 0
  | k + 1 => sm l k + (l.getD k 0 - 48)
def wb (l : List Nat) (p : Nat) : Bool := !dg10 (l.getD p 0)
theorem wb_lt {l : List Nat} {p : Nat} (h : wb l p = false) : p < l.length ∧ dg10 (l.getD p 0) = true := by
  unfold wb at h
  have h1 : dg10 (l.getD p 0) = true := by
    cases e : dg10 (l.getD p 0) with
    | true => rfl
    | false => rw [e] at h; cases h
  refine ⟨?_, h1⟩
  rcases Nat.lt_or_ge p l.length with e | e
  · exact e
  · rw [getD_ge e] at h1; cases h1
theorem dg10_n {c : Nat} (h : dg10 c = true) : 48 ≤ c ∧ c ≤ 57 := of_decide_eq_true h
theorem hrIn8 {l : List Nat} {p : Nat} (h8 : p < 8) : hrIn (l.take 8) p 48 (48 + 10) = !wb l p := by
  unfold hrIn wb
  rw [Bool.not_not]
  by_cases e : p < l.length
  · have h1 : p < (l.take 8).length := by rw [List.length_take]; omega
    rw [vis_get h1]
    unfold dg10
    exact decide_eq_decide.mpr ⟨fun h => ⟨h.2.1, by omega⟩, fun h => ⟨h1, h.1, by omega⟩⟩
  · have h1 : ¬ p < (l.take 8).length := by rw [List.length_take]; omega
    rw [getD_ge (Nat.le_of_not_lt e)]
    exact decide_eq_false (fun h => h1 h.1)
section WO
variable {N x m c : Nat} {g g1 g2 g3 g' : ZS} {A : ZA}
/-- the class forgets the text -/
theorem c_noText {r : Int32} (hC : CJ x g A) (hX : XR g (x + 3) (x + 4) (aR A)) (hA : AI A c) : zW ((zrdR g x 11 0).bind fun v2 => (zwrI g v2 8 1 (0 : Int32)).bind fun g3 => some (r, g3)) (fun o => o.1 = r ∧ zX x (x + 581) g o.2 ∧ CI x o.2 (sT A [])) := by
  refine w_rdR hC.1.s0 hC.1.r0_0 ?_
  rw [c_0, p_wrI hC.1.s1, Option.bind_some, zW_some]
  obtain ⟨t1, t2, t3, -⟩ := hC.2.1
  have J : zJ (fun a j => a = x + 1 ∧ j = 1 ∨ a = x + 2) g (zsetI g (x + 1) 1 (nI 0)) := zJ.setI (by omega)
  exact ⟨rfl, J.toX (fun a j z => by omega), hC.setT hA (J.mono (fun a j z => Or.inr z)) ⟨t1, t2, t3, by rw [gi_sI, if_pos ⟨rfl, rfl⟩]; rfl, by simp, fun j hj => absurd hj (by simp)⟩, hX.stay J (fun a j z => by omega)⟩
/-- the reference has read, and the text is gone -/
theorem r_noText {S : Nat → Nat → Prop} (hR : RI m g A) (hA : AI A c) (hJ : zM m S g g') (hS : ∀ a j, S a j → (a = m ∧ (j = 7 ∨ 12 ≤ j ∧ j ≤ 15 ∨ j = 20)) ∨ a = m + 8) (h7 : zgi g' m 7 = nI 0) : RI m g' (sT A []) := ⟨hR.1.setT hA (hJ.mono (fun a j z => by have := hS a j z; omega)) ⟨h7, by simp, fun j hj => absurd hj (by simp)⟩, hR.2.keepM hJ (fun z => by have := hS _ _ z; omega) (fun j z => by have := hS _ _ z; omega)⟩
abbrev S8 (m : Nat) : Nat → Nat → Prop := fun a j => a = m ∧ (j = 14 ∨ j = 15) ∨ a = m + 8
/-- the reference reads eight digits -/
theorem r_worthsRead {l : List Nat} {q : Nat} {Z : Int32 × ZS → Prop} (hN : 10000 ≤ N) (hR : LR m (zh g)) (hD : RD g m (m + 6) 80 l 8) (h14 : zgi g m 14 = nI 0) (h15 : zgi g m 15 = -nI 1) (hq8 : q ≤ 8) (hgo : ∀ p, p < q → wb l p = false) (hbad : q < 8 → wb l q = true) (hZ1 : q = 8 → l.length ≤ 8 → ∀ g', zJ (S8 m) g g' → (∀ j, j < 8 → zgi g' (m + 8) j = nI (l.getD j 0 - 48)) → zW (zloop (fun s => f_X12_worths_66 N m (nI (sm l 8)) s.1 s.2) N ((0 : Int32), g')) Z) (hZ2 : (q < 8 ∨ 8 < l.length) → ∀ g', zJ (S8 m) g g' → Z ((-1 : Int32) - nI q, g')) : zW (zloop (fun s => f_X12_worths_15 N m s.1 s.2.1 s.2.2) N ((0 : Int32), (0 : Int32), g)) Z := by
  rw [c_0]
  have hRD : ∀ g', zJ (S8 m) g g' → RD g' m (m + 6) 80 l 8 := fun g' hJ => hD.J hJ (by omega) (by omega) (fun j => by omega)
  refine zW_for (fun i (s : Int32 × Int32 × ZS) => s.2.1 = nI i ∧ zJ (S8 m) g s.2.2 ∧ (i ≤ q → s.1 = nI (sm l i) ∧ zgi s.2.2 m 14 = nI i ∧ zgi s.2.2 m 15 = -nI 1 ∧ ∀ j, j < i → zgi s.2.2 (m + 8) j = nI (l.getD j 0 - 48)) ∧ (q < i → zgi s.2.2 m 15 = nI q)) 8 (fun i s hi hs => ?_) (fun s hs => ?_) (by omega) (Nat.zero_le _) ⟨rfl, zJ.rfl, fun _ => ⟨rfl, h14, h15, fun j hj => by omega⟩, fun h => by omega⟩
  · obtain ⟨s1, s2, g1⟩ := s
    obtain ⟨e1, J1, a1, a2⟩ := hs
    dsimp only at e1 J1 a1 a2
    subst e1
    have D1 := hRD g1 J1
    have s0 : zsh g1 m = some (12, 0) := by rw [J1.sh]; exact hR.s0
    have s8 : zsh g1 (m + 8) = some (20, 80) := by rw [J1.sh]; exact hR.s8
    have r16 : zgr g1 m 16 = some (m + 8) := by rw [J1.gr]; exact hR.r16
    show zW (f_X12_worths_15 N m s1 (nI i) g1) _
    unfold f_X12_worths_15
    rw [c_8, if_neg (nI_ge hi (by omega))]
    refine w_rdR s0 r16 (w_vs s0 ?_)
    have fin : ∀ (v : Nat) (g2 : ZS), zJ (fun a j => a = m ∧ (j = 14 ∨ j = 15)) g1 g2 → f_X12_oneOf m 48 10 g1 = some (nI v, g2) → ((i + 1 ≤ q → s1 + nI v = nI (sm l (i + 1)) ∧ zgi g2 m 14 = nI (i + 1) ∧ zgi g2 m 15 = -nI 1 ∧ (∀ j, j < i → zgi g2 (m + 8) j = nI (l.getD j 0 - 48)) ∧ v = l.getD i 0 - 48) ∧ (q < i + 1 → zgi g2 m 15 = nI q)) → zW ((f_X12_oneOf m 48 10 g1).bind fun r4 => (zast 20 r4.2 (m + 8) (nI i) r4.1).bind fun g5 => (zrdR g5 m 12 16).bind fun v6 => (zald 20 g5 v6 (nI i)).bind fun v7 => some (.inl (s1 + v7, nI i + (1 : Int32), g5))) (zI (fun (s : Int32 × Int32 × ZS) => s.2.1 = nI (i + 1) ∧ zJ (S8 m) g s.2.2 ∧ (i + 1 ≤ q → s.1 = nI (sm l (i + 1)) ∧ zgi s.2.2 m 14 = nI (i + 1) ∧ zgi s.2.2 m 15 = -nI 1 ∧ ∀ j, j < i + 1 → zgi s.2.2 (m + 8) j = nI (l.getD j 0 - 48)) ∧ (q < i + 1 → zgi s.2.2 m 15 = nI q)) Z) := by
      intro v g2 J2 he hp
      refine w_eq he ?_
      dsimp only
      rw [w20_80 (by rw [J2.sh]; exact s8) (by omega), Option.bind_some]
      refine w_rdR (by rw [sh_sI, J2.sh]; exact s0) (by rw [gr_sI, J2.gr]; exact r16) ?_
      rw [a20_80 (by rw [sh_sI, J2.sh]; exact s8) (by omega), gi_sI, if_pos ⟨rfl, rfl⟩, Option.bind_some, zW_some, zI_inl, c_1, nI_add]
      have J3 : zJ (fun a j => a = m + 8) g2 (zsetI g2 (m + 8) i (nI v)) := zJ.setI rfl
      refine ⟨rfl, (J1.trans (J2.mono (fun a j z => by omega))).trans (J3.mono (fun a j z => by omega)), fun h => ?_, fun h => ?_⟩
      · obtain ⟨p1, p2, p3, p4, p5⟩ := hp.1 h
        refine ⟨p1, by rw [J3.gi (by omega)]; exact p2, by rw [J3.gi (by omega)]; exact p3, fun j hj => ?_⟩
        by_cases e : j = i
        · subst e; dsimp only; rw [gi_sI, if_pos ⟨rfl, rfl⟩, p5]
        · dsimp only; rw [gi_sI, if_neg (by omega)]; exact p4 j (by omega)
      · dsimp only; rw [J3.gi (by omega)]; exact hp.2 h
    rcases Nat.lt_trichotomy i q with h | h | h
    · obtain ⟨b1, b2, b3, b4⟩ := a1 (by omega)
      have hh := hrIn8 (l := l) hi
      rw [hgo i h] at hh
      have k1 := (wb_lt (hgo i h)).1
      have k2 : (l.take 8).getD i 0 = l.getD i 0 := vis_get (by rw [List.length_take]; omega)
      have he := e_oneY (a := 48) (b := 10) s0 D1 b2 b3 (by omega) (by omega) hh
      rw [k2] at he
      have J2 : zJ (fun a j => a = m ∧ (j = 14 ∨ j = 15)) g1 (zsetI g1 m 14 (nI (i + 1))) := zJ.setI (by omega)
      exact fin (l.getD i 0 - 48) _ J2 he ⟨fun _ => ⟨by rw [b1, nI_add]; rfl, by rw [gi_sI, if_pos ⟨rfl, rfl⟩], by rw [gi_sI, if_neg (by omega)]; exact b3, fun j hj => by rw [J2.gi (by omega)]; exact b4 j hj, rfl⟩, fun h' => by omega⟩
    · subst h
      obtain ⟨b1, b2, b3, b4⟩ := a1 (by omega)
      have hh := hrIn8 (l := l) hi
      rw [hbad hi] at hh
      have he := e_oneN (a := 48) (b := 10) s0 D1 b2 (by omega) b3 (by omega) hh
      have J2 : zJ (fun a j => a = m ∧ (j = 14 ∨ j = 15)) g1 (zsetI g1 m 15 (nI i)) := zJ.setI (by omega)
      exact fin 0 _ J2 he ⟨fun h' => by omega, fun _ => by rw [gi_sI, if_pos ⟨rfl, rfl⟩]⟩
    · have b := a2 (by omega)
      exact fin 0 g1 zJ.rfl (e_one0 s0 b (by omega)) ⟨fun h' => by omega, fun _ => b⟩
  · obtain ⟨s1, s2, g1⟩ := s
    obtain ⟨e1, J1, a1, a2⟩ := hs
    dsimp only at e1 J1 a1 a2
    subst e1
    have D1 := hRD g1 J1
    have s0 : zsh g1 m = some (12, 0) := by rw [J1.sh]; exact hR.s0
    show zW (f_X12_worths_15 N m s1 (nI 8) g1) _
    unfold f_X12_worths_15
    rw [c_8, if_pos (nI_le (Nat.le_refl _) (by omega)), zW_map]
    refine w_vs s0 ?_
    by_cases h : q = 8
    · obtain ⟨b1, b2, b3, b4⟩ := a1 (by omega)
      by_cases h2 : l.length ≤ 8
      · refine w_eq (e_right1 s0 D1 b2 (by omega) b3 h2) ?_
        dsimp only
        rw [if_neg (show ¬ nI 1 = 0 by decide)]
        rw [b1]
        exact hZ1 h h2 g1 J1 b4
      · refine w_eq (e_rightN s0 D1 b2 b3 (by omega)) ?_
        dsimp only
        rw [if_pos (show nI 0 = 0 from rfl)]
        refine w_rdI (by rw [sh_sI]; exact s0) (show zgi (zsetI g1 m 15 (nI 8)) m 15 = nI 8 by rw [gi_sI, if_pos ⟨rfl, rfl⟩]) ?_
        rw [zW_some]
        have := hZ2 (Or.inr (by omega)) (zsetI g1 m 15 (nI 8)) (J1.setI' (by omega))
        rw [h] at this
        exact this
    · have b := a2 (by omega)
      refine w_eq (e_right0 s0 b (by omega)) ?_
      dsimp only
      rw [if_pos (show nI 0 = 0 from rfl)]
      refine w_rdI s0 b ?_
      rw [zW_some]
      exact hZ2 (Or.inl (by omega)) g1 J1
theorem k_worths (hN : 10000 ≤ N) : Call (fun x g => f_X11_worths N x g) (fun m g => f_X12_worths N m g) := call_s (fun x m c g A hC hA hc => by
  have h80 := hA.2.2.1
  have h256 := hA.2.2.2.1
  obtain ⟨l, hl⟩ : ∃ l, l = aT A := ⟨_, rfl⟩
  rw [← hl] at h80 h256
  obtain ⟨q, hq⟩ : ∃ q, q = zleast (wb l) 8 0 := ⟨_, rfl⟩
  obtain ⟨q1, q2, q3, q4⟩ := zleast_spec (wb l) 8 0
  rw [← hq] at q1 q2 q3 q4
  have good : ∀ p, p < q → p < l.length ∧ dg10 (l.getD p 0) = true := fun p hp => wb_lt (q3 p (by omega) hp)
  have qle : q ≤ l.length := by
    rcases Nat.eq_zero_or_pos q with e | e
    · omega
    · have := (good (q - 1) (by omega)).1; omega
  have hXT : XT g (x + 1) (x + 2) l := by rw [hl]; exact hC.1.2.1
  have hL := hC.1.1
  have t4 := hXT.2.2.2.1
  have e0 : ∀ (Z : Int32 × ZS → Prop), zW (f_X11_readWorths_2 N x (nI q) g) (zI (fun _ => False) Z) → zW (f_X11_readWorths N x g) Z := by
    intro Z hZ
    unfold f_X11_readWorths
    rw [c_0]
    refine zW_for (fun i (s : Int32) => s = nI i) q (fun i s hi hs => ?_) (fun s hs => ?_) (by omega) (Nat.zero_le _) rfl
    · subst hs
      obtain ⟨k1, k2⟩ := good i hi
      have k3 := h256 i
      show zW (f_X11_readWorths_2 N x (nI i) g) _
      unfold f_X11_readWorths_2
      refine w_rdR hL.s0 hL.r0_0 (w_rdI hL.s1 t4 ?_)
      rw [if_neg (nI_ge k1 (by omega)), c_8, if_neg (nI_ge (by omega) (by omega))]
      refine w_rdR hL.s0 hL.r0_0 (w_vs hL.s1 (w_eq (e_digitAt hXT (by omega)) ?_))
      rw [if_neg (fun h => by rw [show (-1 : Int32) = -nI 1 from rfl, dgv_n k3, k2] at h; cases h), zW_some, zI_inl, c_1, nI_add]
    · subst hs; exact hZ
  by_cases hok : q = 8 ∧ l.length = 8
  · obtain ⟨hq8, hl8⟩ := hok
    have hgood : ∀ p, p < 8 → dgv (l.getD p 0) = nI (l.getD p 0 - 48) := fun p hp => by unfold dgv; rw [if_pos (good p (by omega)).2]
    refine ⟨nI (sm l 8), sT (sW A (fun w => l.getD w 0 - 48)) [], ((hA.setW (W := fun w => l.getD w 0 - 48) (fun w hw => by have := dg10_n (good w (by omega)).2; show l.getD w 0 - 48 ≤ 9; omega)).noT).mono (Nat.le_succ c), ?_, fun g' hR => ?_⟩
    · unfold Cc f_X11_worths
      refine w_vs hL.s0 ?_
      have hr : zW (f_X11_readWorths N x g) (fun o => o.1 = nI (sm l 8) ∧ zJ (fun a _ => a = x + 12) g o.2 ∧ CJ x o.2 (sW A (fun w => l.getD w 0 - 48))) := by
        refine e0 _ ?_
        unfold f_X11_readWorths_2
        refine w_rdR hL.s0 hL.r0_0 (w_rdI hL.s1 t4 ?_)
        rw [if_pos (nI_le (by omega) (by omega)), zW_map]
        refine w_rdR hL.s0 hL.r0_0 (w_rdI hL.s1 t4 ?_)
        rw [c_8, if_pos (nI_le (by omega) (by omega)), c_0]
        refine zW_forI (fun i g' => zJ (fun a _ => a = x + 12) g g' ∧ ∀ j, j < i → zgi g' (x + 12) j = nI (l.getD j 0 - 48)) 8 (fun i g2 hi hI => ?_) (fun g2 hI => ?_) (by omega) (Nat.zero_le _) ⟨zJ.rfl, fun j hj => by omega⟩
        · obtain ⟨J2, e2⟩ := hI
          have X2 : XT g2 (x + 1) (x + 2) l := hXT.keep J2 (by omega) (fun j => by omega)
          show zW (f_X11_readWorths_65 N x (nI i) g2) _
          unfold f_X11_readWorths_65
          rw [c_8, if_neg (nI_ge hi (by omega))]
          refine w_rdR (by rw [J2.sh]; exact hL.s0) (by rw [J2.gr]; exact hL.r0_3) (w_rdR (by rw [J2.sh]; exact hL.s0) (by rw [J2.gr]; exact hL.r0_0) (w_vs X2.1 (w_eq (e_digitAt X2 (by omega)) ?_)))
          rw [hgood i hi, w20_8 (by rw [J2.sh]; exact hL.s12) hi, Option.bind_some, zW_some, zI_inl, c_1, nI_add]
          refine ⟨rfl, J2.setI' rfl, fun j hj => ?_⟩
          by_cases e : j = i
          · subst e; rw [gi_sI, if_pos ⟨rfl, rfl⟩]
          · rw [gi_sI, if_neg (by omega)]; exact e2 j (by omega)
        · obtain ⟨J2, e2⟩ := hI
          have C2 : CJ x g2 (sW A (fun w => l.getD w 0 - 48)) := hC.1.setW hA (J2.mono (fun a j z => Or.inr z)) e2
          show zW (f_X11_readWorths_65 N x (nI 8) g2) _
          unfold f_X11_readWorths_65
          rw [c_8, if_pos (nI_le (Nat.le_refl _) (by omega)), zW_map]
          have hs : f_X11_sumOfWorths N x g2 = some (nI (sm l 8)) := by
            unfold f_X11_sumOfWorths
            have := loopA (body := fun s => f_X11_sumOfWorths_4 N x s.1 s.2 g2) (fun i (_ : Int32) => nI (sm l (i + 1))) 8 (fun a => a) (fun i a => a = nI (sm l i)) (a := nI 0) rfl (fun i y hi hy => ⟨?_, rfl⟩) (fun y hy => ?_) (show 8 < N by omega)
            · exact this
            · show f_X11_sumOfWorths_4 N x y (nI i) g2 = _
              unfold f_X11_sumOfWorths_4
              rw [c_8, if_neg (nI_ge hi (by omega)), p_rdR C2.1.s0, C2.1.r0_3, Option.bind_some, a20_8 C2.1.s12 hi, Option.bind_some, e2 i hi, hy, nI_add, c_1, nI_add]
              rfl
            · show f_X11_sumOfWorths_4 N x y (nI 8) g2 = _
              unfold f_X11_sumOfWorths_4
              rw [c_8, if_pos (nI_le (Nat.le_refl _) (by omega)), Option.map_some]
          refine w_vs C2.1.s0 (w_eq hs ?_)
          rw [zW_some]
          exact ⟨rfl, J2, C2⟩
      refine hr.bind (fun o ho => ?_)
      obtain ⟨o1, J2, C2⟩ := ho
      refine (c_noText (r := o.1) C2 (hC.2.stay J2 (fun a j z => by omega)) (hA.setW (W := fun w => l.getD w 0 - 48) (fun w hw => by have := dg10_n (good w (by omega)).2; show l.getD w 0 - 48 ≤ 9; omega))).mono (fun o' h' => ?_)
      exact ⟨h'.1.trans o1, (J2.toX (fun a j z => by omega)).trans h'.2.1, h'.2.2⟩
    · unfold Rc f_X12_worths
      refine r_start hR hA (fun g1 J0 hR1 _ => ?_)
      have hRT : RT g1 m l := by rw [hl]; exact hR1.1.2.2.2.1
      refine w_vs hR1.1.1.s0 ?_
      rw [c_8]
      refine (s_beginText hR1.1.1 hRT (by omega)).bind (fun g2 h2 => ?_)
      obtain ⟨J2, D2, e14, e15, e7⟩ := h2
      have hL2 : LR m (zh g2) := hR1.1.1.M J2
      refine r_worthsRead hN hL2 D2 e14 e15 (by omega) (fun p hp => q3 p (by omega) hp) (fun h => q4 (by omega)) (fun _ _ g3 J3 e3 => ?_) (fun h => by omega)
      rw [c_0]
      have JM : zM m (fun a j => (a = m ∧ (j = 7 ∨ 12 ≤ j ∧ j ≤ 15 ∨ j = 20)) ∨ a = m + 8) g1 g3 := (J2.mono (fun a j z => by omega)).trans ((J3.toM (m := m)).mono (fun a j z => by omega))
      have R3 : RI m g3 (sT A []) := r_noText hR1 hA JM (fun a j z => z) (by rw [J3.gi (by omega)]; exact e7)
      refine zW_forI (fun i g' => zJ (fun a _ => a = m + 3) g3 g' ∧ ∀ j, j < i → zgi g' (m + 3) j = nI (l.getD j 0 - 48)) 8 (fun i g4 hi hI => ?_) (fun g4 hI => ?_) (by omega) (Nat.zero_le _) ⟨zJ.rfl, fun j hj => by omega⟩
      · obtain ⟨J4, e4⟩ := hI
        show zW (f_X12_worths_66 N m (nI (sm l 8)) (nI i) g4) _
        unfold f_X12_worths_66
        rw [c_8, if_neg (nI_ge hi (by omega))]
        refine w_rdR (by rw [J4.sh]; exact R3.1.1.s0) (by rw [J4.gr]; exact R3.1.1.r3) (w_rdR (by rw [J4.sh]; exact R3.1.1.s0) (by rw [J4.gr]; exact R3.1.1.r16) ?_)
        rw [a20_80 (by rw [J4.sh]; exact R3.1.1.s8) (by omega), J4.gi (by omega), e3 i hi, Option.bind_some, w20_8 (by rw [J4.sh]; exact R3.1.1.s3) hi, Option.bind_some, zW_some, zI_inl, c_1, nI_add]
        refine ⟨rfl, J4.setI' rfl, fun j hj => ?_⟩
        by_cases e : j = i
        · subst e; rw [gi_sI, if_pos ⟨rfl, rfl⟩]
        · rw [gi_sI, if_neg (by omega)]; exact e4 j (by omega)
      · obtain ⟨J4, e4⟩ := hI
        show zW (f_X12_worths_66 N m (nI (sm l 8)) (nI 8) g4) _
        unfold f_X12_worths_66
        rw [c_8, if_pos (nI_le (Nat.le_refl _) (by omega)), Option.map_some, zW_some, zI_inr]
        exact ⟨rfl, ((J0.toX (fun a j z => scm_in z) (by omega)).trans (JM.toX (fun a j z => by omega) (by omega))).trans (J4.toX (fun a j z => by omega)), R3.1.setW hA.noT ((J4.toM (m := m)).mono (fun a j z => Or.inr z)) e4, R3.2.keepM (J4.toM (m := m)) (by omega) (fun j => by omega)⟩
  · refine ⟨(-1 : Int32) - nI q, sT A [], hA.noT.mono (Nat.le_succ c), ?_, fun g' hR => ?_⟩
    · unfold Cc f_X11_worths
      refine w_vs hL.s0 ?_
      have hr : zW (f_X11_readWorths N x g) (fun o => o = ((-1 : Int32) - nI q, g)) := by
        refine e0 _ ?_
        unfold f_X11_readWorths_2 f_X11_readWorths_31
        refine w_rdR hL.s0 hL.r0_0 (w_rdI hL.s1 t4 ?_)
        by_cases e1 : l.length ≤ q
        · have e2 : l.length = q := by omega
          rw [if_pos (nI_le e1 (by omega)), zW_map]
          refine w_rdR hL.s0 hL.r0_0 (w_rdI hL.s1 t4 ?_)
          rw [c_8, if_neg (nI_ge (by omega) (by omega))]
          refine w_rdR hL.s0 hL.r0_0 (w_rdI hL.s1 t4 ?_)
          rw [zW_some, e2]; rfl
        · rw [if_neg (nI_ge (by omega) (by omega)), c_8]
          by_cases e2 : 8 ≤ q
          · rw [if_pos (nI_le e2 (by omega)), Option.map_some, zW_some]; rfl
          · rw [if_neg (nI_ge (by omega) (by omega))]
            refine w_rdR hL.s0 hL.r0_0 (w_vs hL.s1 (w_eq (e_digitAt hXT (by omega)) ?_))
            have hb := q4 (by omega)
            unfold wb at hb
            rw [if_pos (show dgv (l.getD q 0) = -1 from (dgv_n (h256 q)).mpr (by cases e : dg10 (l.getD q 0) with | false => rfl | true => rw [e] at hb; cases hb)), Option.map_some, zW_some]; rfl
      refine hr.bind (fun o ho => ?_)
      subst ho
      refine (c_noText (r := (-1 : Int32) - nI q) hC.1 hC.2 hA).mono (fun o' h' => ?_)
      exact h'
    · unfold Rc f_X12_worths
      refine r_start hR hA (fun g1 J0 hR1 _ => ?_)
      have hRT : RT g1 m l := by rw [hl]; exact hR1.1.2.2.2.1
      refine w_vs hR1.1.1.s0 ?_
      rw [c_8]
      refine (s_beginText hR1.1.1 hRT (by omega)).bind (fun g2 h2 => ?_)
      obtain ⟨J2, D2, e14, e15, e7⟩ := h2
      have hL2 : LR m (zh g2) := hR1.1.1.M J2
      refine r_worthsRead hN hL2 D2 e14 e15 (by omega) (fun p hp => q3 p (by omega) hp) (fun h => q4 (by omega)) (fun h1 h2 => absurd (show q = 8 ∧ l.length = 8 by omega) hok) (fun _ g3 J3 => ?_)
      have JM : zM m (fun a j => (a = m ∧ (j = 7 ∨ 12 ≤ j ∧ j ≤ 15 ∨ j = 20)) ∨ a = m + 8) g1 g3 := (J2.mono (fun a j z => by omega)).trans ((J3.toM (m := m)).mono (fun a j z => by omega))
      exact ⟨rfl, (J0.toX (fun a j z => scm_in z) (by omega)).trans (JM.toX (fun a j z => by omega) (by omega)), r_noText hR1 hA JM (fun a j z => z) (by rw [J3.gi (by omega)]; exact e7)⟩)
end WO
