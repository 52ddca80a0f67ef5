/-! ===== a tale is read; house ===== -/
theorem m1_neg : ∀ q, q < 100 → ¬ (0 : Int32) ≤ (-1 : Int32) - nI q := by decide +kernel
def lw (l : List Nat) : List Nat := l.map (fun c => c - 97)
theorem lw_len {l : List Nat} : (lw l).length = l.length := List.length_map _
theorem lw_get {l : List Nat} {j : Nat} (h : j < l.length) : (lw l).getD j 0 = l.getD j 0 - 97 := by
  unfold lw
  rw [List.getD_eq_getElem?_getD, List.getElem?_map, List.getD_eq_getElem?_getD, List.getElem?_eq_getElem h]
  rfl
theorem lt8_n {c : Nat} (h : lt8 c = true) : 97 ≤ c ∧ c ≤ 104 := of_decide_eq_true h
theorem tb_f {l : List Nat} {p : Nat} (h : tb l p = false) : p < 16 ∧ lt8 (l.getD p 0) = true := by
  unfold tb at h
  rw [Bool.or_eq_false_iff] at h
  refine ⟨by have := of_decide_eq_false h.1; omega, ?_⟩
  cases e : lt8 (l.getD p 0) with
  | true => rfl
  | false => rw [e] at h; cases h.2
/-- where a tale fails, or its length -/
def tq (l : List Nat) : Nat := zleast (tb l) l.length 0
theorem tq_spec (l : List Nat) : tq l ≤ l.length ∧ tq l ≤ 16 ∧ (∀ p, p < tq l → lt8 (l.getD p 0) = true) ∧ (tq l < l.length → tq l < 16 → lt8 (l.getD (tq l) 0) = false) := by
  obtain ⟨q1, q2, q3, q4⟩ := zleast_spec (tb l) l.length 0
  have h1 : ∀ p, p < tq l → p < 16 ∧ lt8 (l.getD p 0) = true := fun p hp => tb_f (q3 p (by omega) hp)
  refine ⟨by unfold tq; omega, ?_, fun p hp => (h1 p hp).2, fun h h16 => ?_⟩
  · rcases Nat.eq_zero_or_pos (tq l) with e | e
    · omega
    · have := (h1 (tq l - 1) (by omega)).1; omega
  · have h2 : (decide (16 ≤ tq l) || !lt8 (l.getD (tq l) 0)) = true := q4 (by unfold tq at h; omega)
    rw [decide_eq_false (by omega), Bool.false_or] at h2
    cases e : lt8 (l.getD (tq l) 0) with
    | false => rfl
    | true => rw [e] at h2; cases h2
theorem hrIn16 {l : List Nat} {p : Nat} (h16 : p < 16) : hrIn (l.take 16) p 97 (97 + 8) = (decide (p < l.length) && lt8 (l.getD p 0)) := by
  unfold hrIn
  by_cases e : p < l.length
  · have h1 : p < (l.take 16).length := by rw [List.length_take]; omega
    rw [vis_get h1, decide_eq_true e, Bool.true_and]
    unfold lt8
    exact decide_eq_decide.mpr ⟨fun h => ⟨h.2.1, by omega⟩, fun h => ⟨h1, h.1, by omega⟩⟩
  · have h1 : ¬ p < (l.take 16).length := by rw [List.length_take]; omega
    rw [decide_eq_false e, Bool.false_and]
    exact decide_eq_false (fun h => h1 h.1)
abbrev S7 (m : Nat) : Nat → Nat → Prop := fun a j => (a = m ∧ (j = 7 ∨ 12 ≤ j ∧ j ≤ 15 ∨ j = 20)) ∨ a = m + 8
section HO
variable {N x m c : Nat} {g g1 g2 g3 g' : ZS} {A : ZA}
theorem r_readWords {l : List Nat} {n0 : Nat} (hN : 10000 ≤ N) (hR : LR m (zh g)) (hT : RT g m l) (h256 : ∀ p, l.getD p 0 < 256) (hn0 : n0 ≤ 1) : zW (f_X12_readWords N m (nI n0) g) (fun o => zM m (S7 m) g o.2 ∧ zgi o.2 m 7 = nI 0 ∧ ((l.length < n0 ∨ tq l < l.length) → o.1 = (-1 : Int32) - nI (tq l)) ∧ (¬ (l.length < n0 ∨ tq l < l.length) → o.1 = nI l.length ∧ ∀ j, j < l.length → zgi o.2 (m + 8) j = nI (l.getD j 0 - 97))) := by
  obtain ⟨q, hq⟩ : ∃ q, q = tq l := ⟨_, rfl⟩
  obtain ⟨q1, q2, q3, q4⟩ := tq_spec l
  rw [← hq] at q1 q2 q3 q4 ⊢
  unfold f_X12_readWords
  refine w_vs hR.s0 ?_
  rw [c_16]
  refine (s_beginText hR hT (by omega)).bind (fun g2 h2 => ?_)
  obtain ⟨JB, D2, e14, e15, e7⟩ := h2
  have hL2 : LR m (zh g2) := hR.M JB
  have hRD : ∀ g', zJ (S8 m) g2 g' → RD g' m (m + 6) 80 l 16 := fun g' hJ => D2.J hJ (by omega) (by omega) (fun j => by omega)
  have fin : ∀ g', zJ (S8 m) g2 g' → zM m (S7 m) g g' ∧ zgi g' m 7 = nI 0 := fun g' hJ => ⟨(JB.mono (fun a j z => by omega)).trans ((hJ.toM (m := m)).mono (fun a j z => by omega)), by rw [hJ.gi (by omega)]; exact e7⟩
  have hlt16 : (l.take 16).length = min 16 l.length := List.length_take
  rw [c_0]
  obtain ⟨e, he1, he2, he3⟩ : ∃ e, (e = q ∨ e = q + 1) ∧ (e = q + 1 → q < 16 ∧ (q < l.length ∨ l.length < n0)) ∧ (e = q → ¬ (q < 16 ∧ (q < l.length ∨ l.length < n0))) := by
    by_cases h : q < 16 ∧ (q < l.length ∨ l.length < n0)
    · exact ⟨q + 1, Or.inr rfl, fun _ => h, fun h' => by omega⟩
    · exact ⟨q, Or.inl rfl, fun h' => by omega, fun _ => h⟩
  refine zW_for (fun i (s : Int32 × ZS) => s.1 = nI i ∧ zJ (S8 m) g2 s.2 ∧ (i ≤ q → zgi s.2 m 14 = nI i ∧ zgi s.2 m 15 = -nI 1 ∧ ∀ j, j < i → zgi s.2 (m + 8) j = nI (l.getD j 0 - 97)) ∧ (q < i → zgi s.2 m 15 = nI q)) e (fun i s hi hs => ?_) (fun s hs => ?_) (by omega) (Nat.zero_le _) ⟨rfl, zJ.rfl, fun _ => ⟨e14, e15, fun j hj => by omega⟩, fun h => by omega⟩
  · obtain ⟨s1, g1⟩ := s
    obtain ⟨e1, J1, a1, a2⟩ := hs
    dsimp only at e1 J1 a1 a2
    subst e1
    have D1 := hRD g1 J1
    have s0 : zsh g1 m = some (12, 0) := by rw [J1.sh]; exact hL2.s0
    have s8 : zsh g1 (m + 8) = some (20, 80) := by rw [J1.sh]; exact hL2.s8
    have r16 : zgr g1 m 16 = some (m + 8) := by rw [J1.gr]; exact hL2.r16
    have hiq : i ≤ q := by omega
    have hi16 : i < 16 := by omega
    obtain ⟨b2, b3, b4⟩ := a1 hiq
    have hil : i < l.length ∨ i < n0 := by omega
    -- one word is read
    have step : zW (f_X12_readWords_28 N m (nI n0) (nI i) g1) (zI (fun (s : Int32 × ZS) => s.1 = nI (i + 1) ∧ zJ (S8 m) g2 s.2 ∧ (i + 1 ≤ q → zgi s.2 m 14 = nI (i + 1) ∧ zgi s.2 m 15 = -nI 1 ∧ ∀ j, j < i + 1 → zgi s.2 (m + 8) j = nI (l.getD j 0 - 97)) ∧ (q < i + 1 → zgi s.2 m 15 = nI q)) (fun (o : Int32 × ZS) => zM m (S7 m) g o.2 ∧ zgi o.2 m 7 = nI 0 ∧ ((l.length < n0 ∨ q < l.length) → o.1 = (-1 : Int32) - nI q) ∧ (¬ (l.length < n0 ∨ q < l.length) → o.1 = nI l.length ∧ ∀ j, j < l.length → zgi o.2 (m + 8) j = nI (l.getD j 0 - 97)))) := by
      unfold f_X12_readWords_28
      refine w_rdR s0 r16 (w_vs s0 ?_)
      have hh := hrIn16 (l := l) hi16
      by_cases h : i < q
      · rw [decide_eq_true (show i < l.length by omega), q3 i h, Bool.true_and] at hh
        have k2 : (l.take 16).getD i 0 = l.getD i 0 := vis_get (by omega)
        have he := e_oneY (a := 97) (b := 8) s0 D1 b2 b3 (by omega) (by omega) hh
        rw [k2] at he
        have J2 : zJ (fun a j => a = m ∧ (j = 14 ∨ j = 15)) g1 (zsetI g1 m 14 (nI (i + 1))) := zJ.setI (by omega)
        refine w_eq he ?_
        dsimp only
        rw [w20_80 (by rw [sh_sI]; exact s8) (by omega), Option.bind_some, zW_some, zI_inl, c_1, nI_add]
        have J3 : zJ (fun a j => a = m + 8) (zsetI g1 m 14 (nI (i + 1))) (zsetI (zsetI g1 m 14 (nI (i + 1))) (m + 8) i (nI (l.getD i 0 - 97))) := zJ.setI rfl
        refine ⟨rfl, (J1.trans (J2.mono (fun a j z => by omega))).trans (J3.mono (fun a j z => by omega)), fun _ => ⟨?_, ?_, fun j hj => ?_⟩, fun h' => by omega⟩
        · dsimp only; rw [J3.gi (by omega), gi_sI, if_pos ⟨rfl, rfl⟩]
        · dsimp only; rw [J3.gi (by omega), gi_sI, if_neg (by omega)]; exact b3
        · dsimp only
          by_cases ej : j = i
          · subst ej; rw [gi_sI, if_pos ⟨rfl, rfl⟩]
          · rw [gi_sI, if_neg (by omega), J2.gi (by omega)]; exact b4 j (by omega)
      · have hiq' : i = q := by omega
        subst hiq'
        have hbad : (decide (i < l.length) && lt8 (l.getD i 0)) = false := by
          by_cases e4 : i < l.length
          · rw [q4 e4 hi16, Bool.and_false]
          · rw [decide_eq_false e4, Bool.false_and]
        rw [hbad] at hh
        have he := e_oneN (a := 97) (b := 8) s0 D1 b2 (by omega) b3 (by omega) hh
        have J2 : zJ (fun a j => a = m ∧ (j = 14 ∨ j = 15)) g1 (zsetI g1 m 15 (nI i)) := zJ.setI (by omega)
        refine w_eq he ?_
        dsimp only
        rw [w20_80 (by rw [sh_sI]; exact s8) (by omega), Option.bind_some, zW_some, zI_inl, c_1, nI_add]
        have J3 : zJ (fun a j => a = m + 8) (zsetI g1 m 15 (nI i)) (zsetI (zsetI g1 m 15 (nI i)) (m + 8) i (nI 0)) := zJ.setI rfl
        refine ⟨rfl, (J1.trans (J2.mono (fun a j z => by omega))).trans (J3.mono (fun a j z => by omega)), fun h' => by omega, fun _ => ?_⟩
        dsimp only; rw [J3.gi (by omega), gi_sI, if_pos ⟨rfl, rfl⟩]
    show zW (f_X12_readWords_8 N m (nI n0) (nI i) g1) _
    unfold f_X12_readWords_8
    refine w_vs s0 (w_eq (e_fine1 s0 b3) ?_)
    rw [if_neg (show ¬ nI 1 = 0 by decide)]
    by_cases h : i < n0
    · rw [if_pos (nI_lt h (by omega))]; exact step
    · rw [if_neg (nI_nlt (by omega) (by omega))]
      refine w_vs s0 (w_eq (e_here s0 D1 b2 (by omega)) ?_)
      have h3 := h256 i
      rw [show hr (l.take 16) i = nI (l.getD i 0) by unfold hr; rw [if_pos (show i < (l.take 16).length by omega), vis_get (by omega)], if_neg (fun h' => by rw [show (-1 : Int32) = -nI 1 from rfl, ng_eq (by omega) (by omega)] at h'; omega)]
      exact step
  · obtain ⟨s1, g1⟩ := s
    obtain ⟨e1, J1, a1, a2⟩ := hs
    dsimp only at e1 J1 a1 a2
    subst e1
    have D1 := hRD g1 J1
    have s0 : zsh g1 m = some (12, 0) := by rw [J1.sh]; exact hL2.s0
    obtain ⟨f1, f2⟩ := fin g1 J1
    show zW (f_X12_readWords_8 N m (nI n0) (nI e) g1) _
    unfold f_X12_readWords_8 f_X12_readWords_48 f_X12_readWords_65
    refine w_vs s0 ?_
    rcases he1 with h | h
    · have hno := he3 h
      subst h
      obtain ⟨b2, b3, b4⟩ := a1 (Nat.le_refl _)
      refine w_eq (e_fine1 s0 b3) ?_
      rw [if_neg (show ¬ nI 1 = 0 by decide), if_neg (nI_nlt (by omega) (by omega))]
      refine w_vs s0 (w_eq (e_here s0 D1 b2 (by omega)) ?_)
      rw [show hr (l.take 16) e = -nI 1 by unfold hr; rw [if_neg (by omega)], if_pos (show -nI 1 = -1 from rfl), zW_map]
      refine w_vs s0 ?_
      by_cases h2 : l.length ≤ e
      · refine w_eq (e_right1 s0 D1 b2 (by omega) b3 h2) ?_
        dsimp only
        rw [if_neg (show ¬ nI 1 = 0 by decide), zW_some]
        have h3 : e = l.length := by omega
        exact ⟨f1, f2, fun h' => by omega, fun _ => ⟨by rw [h3], fun j hj => b4 j (by omega)⟩⟩
      · refine w_eq (e_rightN s0 D1 b2 b3 (by omega)) ?_
        dsimp only
        rw [if_pos (show nI 0 = 0 from rfl)]
        refine w_rdI (by rw [sh_sI]; exact s0) (show zgi (zsetI g1 m 15 (nI e)) m 15 = nI e by rw [gi_sI, if_pos ⟨rfl, rfl⟩]) ?_
        rw [zW_some]
        obtain ⟨f3, f4⟩ := fin (zsetI g1 m 15 (nI e)) (J1.setI' (by omega))
        exact ⟨f3, f4, fun _ => rfl, fun h' => by omega⟩
    · have hyes := he2 h
      have b := a2 (by omega)
      refine w_eq (e_fine0 s0 b (by omega)) ?_
      rw [if_pos (show nI 0 = 0 from rfl), zW_map]
      refine w_vs s0 (w_eq (e_right0 s0 b (by omega)) ?_)
      dsimp only
      rw [if_pos (show nI 0 = 0 from rfl)]
      refine w_rdI s0 b ?_
      rw [zW_some]
      exact ⟨f1, f2, fun _ => rfl, fun h' => by omega⟩
theorem AI.setH {H : Nat → List Nat} (h : AI A c) (hH : HI H) : AI (sH A H) c := by
  obtain ⟨a1, ⟨a2, -⟩, a3⟩ := h
  exact ⟨a1, ⟨a2, hH⟩, a3⟩
theorem lw_HI {H : Nat → List Nat} {l : List Nat} {h : Nat} (hH : HI H) (h1 : 1 ≤ l.length) (h16 : l.length ≤ 16) (hl : ∀ p, p < l.length → lt8 (l.getD p 0) = true) : HI (fun k => if k = h then lw l else H k) := fun k hk => by
  by_cases e : k = h
  · simp only [if_pos e, lw_len]
    exact ⟨h1, h16, fun i hi => by rw [lw_get hi]; have := lt8_n (hl i hi); omega⟩
  · simp only [if_neg e]; exact hH k hk
theorem k_house (hN : 10000 ≤ N) (v : Int32) : Call (fun x g => f_X11_house N x v g) (fun m g => f_X12_house N m v g) := call_s (fun x m c g A hC hA hc => by
  have h80 := hA.2.2.1
  have h256 := hA.2.2.2.1
  have hL := hC.1.1
  cases hv : rb v 0 4 with
  | false =>
    refine ⟨-100, sT A [], hA.noT.mono (Nat.le_succ c), ?_, fun g' hR => ?_⟩
    · unfold Cc f_X11_house f_X11_house_17
      rw [e_ih11, Option.bind_some, if_pos (bI_eq hv)]
      exact c_noText hC.1 hC.2 hA
    · unfold Rc f_X12_house
      refine r_start hR hA (fun g1 J0 hR1 _ => ?_)
      rw [e_ih12, Option.bind_some, if_pos (bI_eq hv), c_0, p_wrI hR1.1.1.s0, Option.bind_some, zW_some]
      have J : zJ (fun a j => a = m ∧ j = 7) g1 (zsetI g1 m 7 (nI 0)) := zJ.setI ⟨rfl, rfl⟩
      exact ⟨rfl, (J0.toX (fun a j z => scm_in z) (by omega)).trans (J.toX (fun a j z => by omega)), r_noText hR1 hA J.toM (fun a j z => by omega) (by rw [gi_sI, if_pos ⟨rfl, rfl⟩])⟩
  | true =>
    obtain ⟨h, -, hh, rfl⟩ := rb_t hv (by omega)
    obtain ⟨l, hl⟩ : ∃ l, l = aT A := ⟨_, rfl⟩
    rw [← hl] at h80 h256
    have hXT : XT g (x + 1) (x + 2) l := by rw [hl]; exact hC.1.2.1
    have t4 := hXT.2.2.2.1
    obtain ⟨q1, q2, q3, q4⟩ := tq_spec l
    have ebad := e_bad hN hXT
    rw [show zleast (tb l) l.length 0 = tq l from rfl] at ebad
    by_cases hb : l.length < 1 ∨ tq l < l.length
    · refine ⟨(-1 : Int32) - nI (tq l), sT A [], hA.noT.mono (Nat.le_succ c), ?_, fun g' hR => ?_⟩
      · have hr : f_X11_readHouse N x (nI h) g = some ((-1 : Int32) - nI (tq l), g) := by
          unfold f_X11_readHouse
          rw [p_rdR hL.s0, hL.r0_0, Option.bind_some, p_rdI hL.s1, t4, Option.bind_some]
          by_cases e0 : l.length = 0
          · rw [e0, if_pos (show nI 0 = 0 from rfl), show tq l = 0 by omega]; rfl
          · rw [if_neg (fun h' => by rw [c_0, nI_eq (by omega) (by omega)] at h'; omega), Option.bind_some, p_vs hL.s1, ebad, if_pos (show tq l < l.length by omega), Option.bind_some, if_neg (fun h' => by rw [show (-1 : Int32) = -nI 1 from rfl, ng_eq (by omega) (by omega)] at h'; omega)]
        unfold Cc f_X11_house f_X11_house_17
        rw [e_ih11, Option.bind_some, if_neg (bI_ne hv)]
        refine w_vs hL.s0 (w_eq hr ?_)
        exact c_noText hC.1 hC.2 hA
      · unfold Rc f_X12_house
        refine r_start hR hA (fun g1 J0 hR1 _ => ?_)
        rw [e_ih12, Option.bind_some, if_neg (bI_ne hv), c_1]
        refine w_vs hR1.1.1.s0 ((r_readWords (l := l) hN hR1.1.1 (by rw [hl]; exact hR1.1.2.2.2.1) h256 (Nat.le_refl 1)).bind (fun o ho => ?_))
        obtain ⟨J2, e7, w1, -⟩ := ho
        rw [w1 hb, if_neg (m1_neg _ (by omega)), zW_some]
        exact ⟨rfl, (J0.toX (fun a j z => scm_in z) (by omega)).trans (J2.toX (fun a j z => by omega) (by omega)), r_noText hR1 hA J2 (fun a j z => z) e7⟩
    · have hql : tq l = l.length := by omega
      rw [hql] at q3
      have hHI := lw_HI (h := h) hA.2.1.2 (show 1 ≤ l.length by omega) (by omega) q3
      have hwd : ∀ i, i < l.length → wdv (l.getD i 0) = nI (l.getD i 0 - 97) := fun i hi => by unfold wdv; rw [if_pos (q3 i hi)]
      refine ⟨nI l.length, sT (sH A (fun k => if k = h then lw l else aH A k)) [], (hA.setH hHI).noT.mono (Nat.le_succ c), ?_, fun g' hR => ?_⟩
      · unfold Cc f_X11_house f_X11_house_17
        rw [e_ih11, Option.bind_some, if_neg (bI_ne hv)]
        refine w_vs hL.s0 ?_
        have hHl := c_XHl hC.1
        obtain ⟨u1, u2, u3, u4, u5, u6⟩ := hHl
        obtain ⟨u7, u8⟩ := u6 h hh
        have hf : zW (f_X2_furnish N (x + 5) (nI h) (x + 1) g) (fun g' => zJ (fun a j => a = x + 5 + 2 + h ∨ a = x + 5 + 6 ∧ j = h) g g' ∧ zgi g' (x + 5 + 6) h = nI l.length ∧ ∀ i, i < l.length → zgi g' (x + 5 + 2 + h) i = nI (l.getD i 0 - 97)) := by
          unfold f_X2_furnish
          rw [c_0]
          refine zW_forI (fun i g' => zJ (fun a j => a = x + 5 + 2 + h) g g' ∧ ∀ j, j < i → zgi g' (x + 5 + 2 + h) j = nI (l.getD j 0 - 97)) l.length (fun i g2 hi hI => ?_) (fun g2 hI => ?_) (by omega) (Nat.zero_le _) ⟨zJ.rfl, fun j hj => by omega⟩
          · obtain ⟨J2, e2⟩ := hI
            have X2 : XT g2 (x + 1) (x + 2) l := hXT.keep J2 (by omega) (fun j => by omega)
            show zW (f_X2_furnish_2 N (x + 5) (nI h) (x + 1) (nI i) g2) _
            unfold f_X2_furnish_2
            refine w_rdI X2.1 X2.2.2.2.1 ?_
            rw [if_neg (nI_ge hi (by omega)), c_16, if_neg (nI_ge (by omega) (by omega))]
            refine w_rdR (by rw [J2.sh]; exact u1) (by rw [J2.gr]; exact u3) ?_
            rw [p_aald (n := 4) (by rw [J2.sh]; exact u2) hh (by decide), show zgr g2 (x + 5 + 1) h = some (x + 5 + 2 + h) by rw [J2.gr]; exact u7, Option.bind_some]
            refine w_vs X2.1 (w_eq (e_wordAt X2 (by omega)) ?_)
            rw [hwd i hi, p_iast (n := 16) (by rw [J2.sh]; exact u8) (by omega) (by decide), Option.bind_some, zW_some, zI_inl, c_1, nI_add]
            refine ⟨rfl, J2.setI' rfl, fun j hj => ?_⟩
            by_cases e : j = i
            · subst e; rw [gi_sI, if_pos ⟨rfl, rfl⟩]
            · rw [gi_sI, if_neg (by omega)]; exact e2 j (by omega)
          · obtain ⟨J2, e2⟩ := hI
            have X2 : XT g2 (x + 1) (x + 2) l := hXT.keep J2 (by omega) (fun j => by omega)
            show zW (f_X2_furnish_2 N (x + 5) (nI h) (x + 1) (nI l.length) g2) _
            unfold f_X2_furnish_2 f_X2_furnish_35
            refine w_rdI X2.1 X2.2.2.2.1 ?_
            rw [if_pos (nI_le (Nat.le_refl _) (by omega)), zW_map]
            refine w_rdR (by rw [J2.sh]; exact u1) (by rw [J2.gr]; exact u4) (w_rdI X2.1 X2.2.2.2.1 ?_)
            rw [p_iast (n := 4) (by rw [J2.sh]; exact u5) hh (by decide), Option.bind_some, zW_some]
            refine ⟨(J2.mono (fun a j z => Or.inl z)).setI' (by omega), by rw [gi_sI, if_pos ⟨rfl, rfl⟩], fun i hi => by rw [gi_sI, if_neg (by omega)]; exact e2 i hi⟩
        have hr : zW (f_X11_readHouse N x (nI h) g) (fun o => o.1 = nI l.length ∧ zJ (fun a j => x + 5 ≤ a ∧ a < x + 12) g o.2 ∧ CJ x o.2 (sH A (fun k => if k = h then lw l else aH A k))) := by
          unfold f_X11_readHouse
          refine w_rdR hL.s0 hL.r0_0 (w_rdI hL.s1 t4 ?_)
          rw [if_neg (fun h' => by rw [c_0, nI_eq (by omega) (by omega)] at h'; omega)]
          refine w_rdR hL.s0 hL.r0_0 (w_vs hL.s1 (w_eq ebad ?_))
          rw [if_neg (show ¬ tq l < l.length by omega), if_pos (show -nI 1 = -1 from rfl)]
          refine w_rdR hL.s0 hL.r0_2 (w_rdR hL.s0 hL.r0_0 (w_vs u1 (hf.bind (fun g2 h2 => ?_))))
          obtain ⟨J2, e2, e3⟩ := h2
          have J2' : zJ (fun a j => x + 5 ≤ a ∧ a < x + 12) g g2 := J2.mono (fun a j z => by omega)
          refine w_rdR (by rw [J2.sh]; exact hL.s0) (by rw [J2.gr]; exact hL.r0_0) (w_rdI (by rw [J2.sh]; exact hL.s1) (show zgi g2 (x + 1) 1 = nI l.length by rw [J2.gi (by omega)]; exact t4) ?_)
          rw [zW_some]
          refine ⟨rfl, J2', hC.1.setH hA (J2'.mono (fun a j z => Or.inr z)) (fun k hk => ?_)⟩
          by_cases e : k = h
          · subst e
            simp only [if_pos, lw_len]
            exact ⟨e2, fun i hi => by rw [lw_get hi]; exact e3 i hi⟩
          · simp only [if_neg e]
            obtain ⟨y1, y2⟩ := hC.1.2.2.1 k hk
            exact ⟨by rw [J2.gi (by omega)]; exact y1, fun i hi => by rw [J2.gi (by omega)]; exact y2 i hi⟩
        refine hr.bind (fun o ho => ?_)
        obtain ⟨o1, J2, C2⟩ := ho
        refine (c_noText (r := o.1) C2 (hC.2.stay J2 (fun a j z => by omega)) (hA.setH hHI)).mono (fun o' h' => ?_)
        exact ⟨h'.1.trans o1, (J2.toX (fun a j z => by omega)).trans h'.2.1, h'.2.2⟩
      · unfold Rc f_X12_house
        refine r_start hR hA (fun g1 J0 hR1 _ => ?_)
        rw [e_ih12, Option.bind_some, if_neg (bI_ne hv), c_1]
        refine w_vs hR1.1.1.s0 ((r_readWords (l := l) hN hR1.1.1 (by rw [hl]; exact hR1.1.2.2.2.1) h256 (Nat.le_refl 1)).bind (fun o ho => ?_))
        obtain ⟨J2, e7, -, w2⟩ := ho
        obtain ⟨w3, w4⟩ := w2 hb
        have R2 : RI m o.2 (sT A []) := r_noText hR1 hA J2 (fun a j z => z) e7
        rw [w3, c_0, if_pos (show nI 0 ≤ nI l.length from nI_le (by omega) (by omega))]
        refine w_rdR R2.1.1.s0 R2.1.1.r5 ?_
        rw [p_iast (n := 4) R2.1.1.s5 hh (by decide), Option.bind_some]
        have J3 : zJ (fun a j => a = m + 5 ∧ j = h) o.2 (zsetI o.2 (m + 5) h (nI l.length)) := zJ.setI ⟨rfl, rfl⟩
        refine zW_forI (fun i g' => zJ (fun a j => a = m + 5 ∧ j = h ∨ a = m + 4 ∧ 16 * h ≤ j ∧ j < 16 * h + 16) o.2 g' ∧ zgi g' (m + 5) h = nI l.length ∧ ∀ j, j < i → zgi g' (m + 4) (16 * h + j) = nI (l.getD j 0 - 97)) l.length (fun i g4 hi hI => ?_) (fun g4 hI => ?_) (by omega) (Nat.zero_le _) ⟨J3.mono (fun a j z => Or.inl z), by rw [gi_sI, if_pos ⟨rfl, rfl⟩], fun j hj => by omega⟩
        · obtain ⟨J4, e4, e5⟩ := hI
          show zW (f_X12_house_41 N m (nI h) (nI l.length) (nI i) g4) _
          unfold f_X12_house_41
          rw [if_neg (nI_ge hi (by omega))]
          refine w_rdR (by rw [J4.sh]; exact R2.1.1.s0) (by rw [J4.gr]; exact R2.1.1.r4) (w_rdR (by rw [J4.sh]; exact R2.1.1.s0) (by rw [J4.gr]; exact R2.1.1.r16) ?_)
          rw [a20_80 (by rw [J4.sh]; exact R2.1.1.s8) (by omega), J4.gi (by omega), w4 i hi, Option.bind_some, c_16, nI_mul, nI_add, p_iast (n := 64) (by rw [J4.sh]; exact R2.1.1.s4) (by omega) (by decide), Option.bind_some, zW_some, zI_inl, c_1, nI_add]
          refine ⟨rfl, J4.setI' (by omega), by rw [gi_sI, if_neg (by omega)]; exact e4, fun j hj => ?_⟩
          by_cases e : j = i
          · subst e; rw [gi_sI, if_pos ⟨rfl, rfl⟩]
          · rw [gi_sI, if_neg (by omega)]; exact e5 j (by omega)
        · obtain ⟨J4, e4, e5⟩ := hI
          show zW (f_X12_house_41 N m (nI h) (nI l.length) (nI l.length) g4) _
          unfold f_X12_house_41
          rw [if_pos (nI_le (Nat.le_refl _) (by omega)), Option.map_some, zW_some, zI_inr]
          refine ⟨rfl, ((J0.toX (fun a j z => scm_in z) (by omega)).trans (J2.toX (fun a j z => by omega) (by omega))).trans (J4.toX (fun a j z => by omega)), R2.1.setH hA.noT ((J4.toM (m := m)).mono (fun a j z => by omega)) (fun k hk => ?_), R2.2.keepM (J4.toM (m := m)) (by omega) (fun j => by omega)⟩
          by_cases e : k = h
          · subst e
            simp only [if_pos, lw_len]
            exact ⟨e4, fun i hi => by rw [lw_get hi]; exact e5 i hi⟩
          · simp only [if_neg e]
            obtain ⟨y1, y2⟩ := R2.1.2.2.2.2.1 k hk
            have y3 := (hA.2.1.2 k hk).2.1
            exact ⟨by rw [J4.gi (by omega)]; exact y1, fun i hi => by have hi' : i < (aH A k).length := hi; rw [J4.gi (by omega)]; exact y2 i hi⟩)
end HO
