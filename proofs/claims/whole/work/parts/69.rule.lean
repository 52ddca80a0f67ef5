/-! ===== rule ===== -/
theorem sx_nar : ∀ c, c < 256 → vp_nar (zta 21) (sx c) = sx c := by decide +kernel
section RU
variable {N x m c : Nat} {g g1 g2 g3 g' : ZS} {A : ZA}
theorem AI.setL {l k : List Nat} (h : AI A c) (hL : Rul l k) : AI (sL A l k) c := by
  obtain ⟨a1, a2, a3, a4, a5, -, a6⟩ := h
  exact ⟨a1, a2, a3, a4, a5, hL, a6⟩
/-- the other rule of the class is free to change -/
theorem CJ.other {r : Nat} (h : CJ x g A) (hA : AI A c) (hr : zgr g x 5 = some r) (hJ : zJ (Sq r) g g') : CJ x g' A := by
  obtain ⟨h1, h2, h3, h4, ⟨r0, r', h5, h6, h7, h8⟩, ⟨h9, h10⟩, ⟨h11, σ, h12, h13, h14⟩, h15, h16, h17⟩ := h
  obtain ⟨⟨n6, -⟩, -, -, -, -, -, ⟨u12, -⟩, ⟨-, hE⟩, -⟩ := hA
  have er : r' = r := Option.some.inj (h7.symm.trans hr)
  subst er
  have hJ' : zJ (fun a _ => x + 13 ≤ a ∧ a < x + 23) g g' := hJ.mono (fun a j z => by have := z.1; have := z.2; omega)
  exact ⟨by rw [hJ.1]; exact h1, h2.keep hJ' (by omega) (fun j => by omega), h3.keep hJ' (fun a j _ _ => by omega), fun w hw => by rw [hJ'.gi (by omega)]; exact h4 w hw, ⟨r0, r', h5, by rw [hJ.gr]; exact h6, by rw [hJ.gr]; exact h7, by rw [hJ.gi (by omega)]; exact h8.1, fun j hj => by rw [hJ.gi (by omega)]; exact h8.2 j hj⟩, ⟨h9.keep n6 hJ' (fun a j z => by have := z.1; have := z.2; omega), fun p h1 h2 => (h10 p h1 h2).keepJ hJ' (fun a j z => by have := z.1; have := z.2.1; omega)⟩, ⟨by rw [hJ'.gi (by omega)]; exact h11, σ, fun i hi => ⟨(h12 i hi).1, by rw [hJ.gr]; exact (h12 i hi).2⟩, h13, fun i hi => by have := (h12 i (by omega)).1; exact (h14 i hi).keep n6 hJ' (fun a j z => by have := z.1; have := z.2; omega)⟩, fun i hi => ⟨by rw [hJ'.gi (by omega)]; exact (h15 i hi).1, fun u k q e => ((h15 i hi).2 u k q e).keep (by have := (hE i hi u k q e).2.1; omega) hJ' (fun a j z => by have := z.1; have := z.2; omega)⟩, h16.keep hJ' (by omega) (fun i => by omega), h17.keep hJ' (by omega) (fun i => by omega)⟩
/-- the two rules of the class change places -/
theorem CJ.swap {r r' : Nat} {l k : List Nat} (h : CJ x g A) (hr : zgr g x 4 = some r) (hr' : zgr g x 5 = some r') (hq : CQ g r' k) : CJ x (zsetR (zsetR g x 4 (some r')) x 5 (some r)) (sL A l k) := by
  obtain ⟨h1, ⟨t1, t2, t3, t4⟩, h3, h4, ⟨r0, r1, h5, h6, h7, h8⟩, h9, ⟨h11, σ, h12, h13, h14⟩, h15, h16, h17⟩ := h
  have e1 : r0 = r := Option.some.inj (h6.symm.trans hr)
  have e2 : r1 = r' := Option.some.inj (h7.symm.trans hr')
  subst e1; subst e2
  have hg : ∀ a j, ¬ (a = x ∧ (j = 4 ∨ j = 5)) → zgr (zsetR (zsetR g x 4 (some r1)) x 5 (some r0)) a j = zgr g a j := fun a j hn => by
    rw [gr_sR, if_neg (by omega), gr_sR, if_neg (by omega)]
  exact ⟨h1.move (fun a => rfl) (fun a j _ hn => hg a j hn), ⟨t1, t2, by rw [hg _ _ (by omega)]; exact t3, t4⟩, h3, h4, ⟨r1, r0, by omega, by rw [gr_sR, if_neg (by omega), gr_sR, if_pos ⟨rfl, rfl⟩], by rw [gr_sR, if_pos ⟨rfl, rfl⟩], hq⟩, h9, ⟨h11, σ, fun i hi => ⟨(h12 i hi).1, by rw [hg _ _ (by omega)]; exact (h12 i hi).2⟩, h13, h14⟩, h15, h16, h17⟩
theorem k_rule (hN : 10000 ≤ N) : Call (fun x g => f_X11_rule N x g) (fun m g => f_X12_rule N m g) := call_s (fun x m c g A hC hA hc => by
  have h80 := hA.2.2.1
  have h256 := hA.2.2.2.1
  have hL := hC.1.1
  obtain ⟨l, hl⟩ : ∃ l, l = aT A := ⟨_, rfl⟩
  rw [← hl] at h80 h256
  have hXT : XT g (x + 1) (x + 2) l := by rw [hl]; exact hC.1.2.1
  obtain ⟨r, r', h5, h6, h7, h8⟩ := hC.1.2.2.2.2.1
  have hQL : QL (zh g) r' := by
    rcases h5 with ⟨-, h⟩ | ⟨-, h⟩
    · rw [h]; exact hL.QL18
    · rw [h]; exact hL.QL13
  obtain ⟨⟨y, g1⟩, he, J1, hO⟩ := s_readFrom hN hQL hXT (by omega) (by omega)
  dsimp only at J1 hO
  have C1 : CJ x g1 A := hC.1.other hA h7 J1
  have J1' : zJ (fun a _ => x + 13 ≤ a ∧ a < x + 23) g g1 := J1.mono (fun a j z => by have := z.1; have := z.2; omega)
  have X1 := hC.2.stay J1' (fun a j z => by omega)
  -- the text goes
  obtain ⟨g2, hg2⟩ : ∃ g2, g2 = zsetI g1 (x + 1) 1 (nI 0) := ⟨_, rfl⟩
  have J2 : zJ (fun a j => a = x + 1 ∧ j = 1 ∨ a = x + 2) g1 g2 := by rw [hg2]; exact zJ.setI (by omega)
  obtain ⟨t1, t2, t3, -⟩ := C1.2.1
  have C2 : CJ x g2 (sT A []) := C1.setT hA (J2.mono (fun a j z => Or.inr z)) ⟨by rw [J2.sh]; exact t1, by rw [J2.sh]; exact t2, by rw [J2.gr]; exact t3, by rw [hg2, gi_sI, if_pos ⟨rfl, rfl⟩]; rfl, by simp, fun j hj => absurd hj (by simp)⟩
  have X2 := X1.stay J2 (fun a j z => by omega)
  have Z2 : zX x (x + 581) g g2 := (J1'.toX (fun a j z => by omega)).trans (J2.toX (fun a j z => by omega))
  have run : ∀ Z : Int32 × ZS → Prop, zW (if y = (-1 : Int32) then (zrdR g2 x 11 4).bind fun v6 => (zrdR g2 x 11 5).bind fun v7 => (zwrR g2 x 11 4 v7).bind fun g8 => (zwrR g8 x 11 5 v6).bind fun g9 => some ((0 : Int32), g9) else some ((-1 : Int32) - y, g2)) Z → zW (f_X11_rule N x g) Z := by
    intro Z hZ
    unfold f_X11_rule
    refine w_rdR hL.s0 h7 (w_rdR hL.s0 hL.r0_0 (w_vs hQL.f.1 (w_eq he ?_)))
    refine w_rdR C1.1.s0 C1.1.r0_0 ?_
    rw [c_0, p_wrI C1.1.s1, Option.bind_some, ← hg2]
    exact hZ
  by_cases hy : y = -nI 1
  · obtain ⟨code, hRul, hCQ⟩ := (hO.agree hO).2 hy
    have l40 := hRul.1
    refine ⟨0, sT (sL A l code) [], (hA.setL hRul).noT.mono (Nat.le_succ c), ?_, fun g' hR => ?_⟩
    · refine run _ ?_
      rw [if_pos (show y = -1 from hy)]
      have r4 : zgr g2 x 4 = some r := by rw [J2.gr, J1.gr]; exact h6
      have r5 : zgr g2 x 5 = some r' := by rw [J2.gr, J1.gr]; exact h7
      refine w_rdR C2.1.s0 r4 (w_rdR C2.1.s0 r5 ?_)
      rw [p_wrR C2.1.s0, Option.bind_some, p_wrR (by exact C2.1.s0), Option.bind_some, zW_some]
      have hq2 : CQ g2 r' code := ⟨by rw [J2.gi (by omega)]; exact hCQ.1, fun j hj => by rw [J2.gi (by omega)]; exact hCQ.2 j hj⟩
      refine ⟨rfl, Z2.trans ⟨Nat.le_refl _, fun a _ ho => ⟨rfl, fun j => ⟨rfl, rfl, by rw [gr_sR, if_neg (by omega), gr_sR, if_neg (by omega)]⟩⟩⟩, C2.swap (A := sT A []) (l := l) r4 r5 hq2, X2⟩
    · unfold Rc f_X12_rule
      refine r_start hR hA (fun g3 J0 hR1 _ => ?_)
      have hRT : RT g3 m l := by rw [hl]; exact hR1.1.2.2.2.1
      refine w_rdI hR1.1.1.s0 hRT.1 (w_vs hR1.1.1.s0 ((s_readRule hN hR1.1.1 hRT).bind (fun o ho => ?_)))
      obtain ⟨J3, e7, O3, hcase⟩ := ho
      have hag := (hO.agree O3).1
      have h15 : zgi o.2 m 15 = -nI 1 := by rw [← hag]; exact hy
      have o1 : o.1 = nI 1 := by
        rcases hcase with ⟨-, h⟩ | ⟨⟨e, he, h⟩, -⟩
        · exact h
        · rw [h15] at h; rw [ng_eq2 (by omega) (by omega)] at h; omega
      have R3 : RI m o.2 (sT A []) := r_noText hR1 hA J3 (fun a j z => Or.inl z) e7
      rw [o1, if_neg (show ¬ nI 1 = 0 by decide), c_0]
      have hQ := R3.1.2.2.1
      refine zW_forI (fun i g' => zJ (fun a j => a = m ∧ j = 19 ∨ a = m + 9) o.2 g' ∧ ∀ j, j < i → zgi g' (m + 9) j = sx (l.getD j 0)) l.length (fun i g4 hi hI => ?_) (fun g4 hI => ?_) (by omega) (Nat.zero_le _) ⟨zJ.rfl, fun j hj => by omega⟩
      · obtain ⟨J4, e4⟩ := hI
        show zW (f_X12_rule_26 N m (nI l.length) (nI i) g4) _
        unfold f_X12_rule_26
        rw [if_neg (nI_ge hi (by omega))]
        refine w_rdR (by rw [J4.sh]; exact R3.1.1.s0) (by rw [J4.gr]; exact hQ.1) (w_rdR (by rw [J4.sh]; exact R3.1.1.s0) (by rw [J4.gr]; exact R3.1.1.r6) ?_)
        rw [a21_80 (by rw [J4.sh]; exact R3.1.1.s6) (by omega), J4.gi (by omega), J3.gi (by omega), (hRT.2.2 i hi).1, Option.bind_some, w21_40 (by rw [J4.sh]; exact hQ.2.1) (by omega), sx_nar _ (h256 i), Option.bind_some, zW_some, zI_inl, c_1, nI_add]
        refine ⟨rfl, J4.setI' (by omega), fun j hj => ?_⟩
        by_cases e : j = i
        · subst e; rw [gi_sI, if_pos ⟨rfl, rfl⟩]
        · rw [gi_sI, if_neg (by omega)]; exact e4 j (by omega)
      · obtain ⟨J4, e4⟩ := hI
        show zW (f_X12_rule_26 N m (nI l.length) (nI l.length) g4) _
        unfold f_X12_rule_26
        rw [if_pos (nI_le (Nat.le_refl _) (by omega)), zW_map, p_wrI (by rw [J4.sh]; exact R3.1.1.s0), Option.bind_some, zW_some]
        have J5 : zJ (fun a j => a = m ∧ j = 19 ∨ a = m + 9) o.2 (zsetI g4 m 19 (nI l.length)) := J4.setI' (by omega)
        refine ⟨rfl, ((J0.toX (fun a j z => scm_in z) (by omega)).trans (J3.toX (fun a j z => by omega) (by omega))).trans (J5.toX (fun a j z => by omega)), R3.1.setL hA.noT ((J5.toM (m := m)).mono (fun a j z => by omega)) ⟨by rw [J5.gr]; exact hQ.1, by rw [J5.sh]; exact hQ.2.1, by rw [gi_sI, if_pos ⟨rfl, rfl⟩], fun j hj => by rw [gi_sI, if_neg (by omega)]; exact e4 j hj⟩, R3.2.keepM (J5.toM (m := m)) (by omega) (fun j => by omega)⟩
  · refine ⟨(-1 : Int32) - y, sT A [], hA.noT.mono (Nat.le_succ c), ?_, fun g' hR => ?_⟩
    · refine run _ ?_
      rw [if_neg (show ¬ y = -1 from hy), zW_some]
      exact ⟨rfl, Z2, C2, X2⟩
    · unfold Rc f_X12_rule
      refine r_start hR hA (fun g3 J0 hR1 _ => ?_)
      have hRT : RT g3 m l := by rw [hl]; exact hR1.1.2.2.2.1
      refine w_rdI hR1.1.1.s0 hRT.1 (w_vs hR1.1.1.s0 ((s_readRule hN hR1.1.1 hRT).bind (fun o ho => ?_)))
      obtain ⟨J3, e7, O3, hcase⟩ := ho
      have hag := (hO.agree O3).1
      have o1 : o.1 = nI 0 := by
        rcases hcase with ⟨h, -⟩ | ⟨-, h⟩
        · exact absurd (hag.trans h) hy
        · exact h
      have R3 : RI m o.2 (sT A []) := r_noText hR1 hA J3 (fun a j z => Or.inl z) e7
      rw [o1, if_pos (show nI 0 = 0 from rfl)]
      refine w_rdI R3.1.1.s0 hag.symm ?_
      rw [zW_some]
      exact ⟨rfl, (J0.toX (fun a j z => scm_in z) (by omega)).trans (J3.toX (fun a j z => by omega) (by omega)), R3⟩)
end RU
