/-! ===== parrots: the call ===== -/
section PC
variable {N x m c : Nat} {g g' : ZS} {A : ZA} {l : List Nat}
theorem r_come {k : Nat} (hN : 10000 ≤ N) (hR : RJ m g A) (hA : AI A c) (hk6 : an A + k ≤ 6) (hk : ∀ i, i < k → zgi g (m + 8) (2 * i) = nI (l.getD (3 * i) 0 - 48) ∧ zgi g (m + 8) (2 * i + 1) = nI (l.getD (3 * i + 1) 0 - 48)) : zW (zloop (fun s => f_X12_parrots_121 N m (nI k) s.1 s.2) N ((0 : Int32), g)) (fun o => o.1 = nI k ∧ zJ (fun a j => a = m ∧ (j = 1 ∨ j = 26 ∨ j = 44) ∨ a = m + 1 ∨ a = m + 2) g o.2 ∧ RJ m o.2 (sC A (an A + k) (pme A l) (pB A l))) := by
  have n6 := hA.1.1
  have hL := hR.1
  obtain ⟨i1, i2, i3⟩ := hR.2.2.2.2.2.2.1
  have e44 := hR.2.2.2.2.2.2.2.2.1.1
  have hN0 : RN g (m + 1) (an A + 0) (ad A) (pB A l) := ⟨i3.1, fun p hp => by unfold pB; rw [if_pos (show p < an A from hp)]; exact i3.2 p hp⟩
  refine zW_forI (fun i g' => zJ (fun a j => a = m ∧ j = 1 ∨ a = m + 1 ∨ a = m + 2) g g' ∧ zgi g' m 1 = nI (an A + i) ∧ (∀ p, p < an A + i → zgi g' (m + 2) p = nI (pme A l p)) ∧ RN g' (m + 1) (an A + i) (ad A) (pB A l)) k (fun i g2 hi hI => ?_) (fun g2 hI => ?_) (by omega) (Nat.zero_le _) ⟨zJ.rfl, i1, fun p hp => by unfold pme; rw [if_pos (show p < an A from hp)]; exact i2 p hp, hN0⟩
  · obtain ⟨J2, a1, a2, a3⟩ := hI
    have R2 := hL.J J2
    show zW (f_X12_parrots_121 N m (nI k) (nI i) g2) _
    unfold f_X12_parrots_121
    rw [if_neg (nI_ge hi (by omega))]
    refine zW_forI (fun j g' => zJ (fun a q => a = m + 1 ∧ 36 * (an A + i) ≤ q ∧ q < 36 * (an A + i) + 36) g2 g' ∧ ∀ q, q < j → zgi g' (m + 1) (36 * (an A + i) + q) = nI 0) 36 (fun j g3 hj hI => ?_) (fun g3 hI => ?_) (by omega) (Nat.zero_le _) ⟨zJ.rfl, fun q hq => absurd hq (Nat.not_lt_zero q)⟩
    · obtain ⟨J3, z3⟩ := hI
      have R3 := R2.J J3
      show zW (f_X12_parrots_129 N m (nI k) (nI i) (nI j) g3) _
      unfold f_X12_parrots_129 f_X12_of
      rw [c_36, if_neg (nI_ge hj (by omega))]
      refine w_rdR R3.s0 R3.r0 (w_rdI R3.s0 (show zgi g3 m 1 = nI (an A + i) by rw [J3.gi (by omega)]; exact a1) ?_)
      rw [nI_mul, nI_add, Option.bind_some, w20_217 R3.s1 (by omega), Option.bind_some, zW_some, zI_inl, c_1, nI_add]
      refine ⟨rfl, J3.setI' ⟨rfl, by omega, by omega⟩, fun q hq => ?_⟩
      rw [gi_sI]
      by_cases e : q = j
      · subst e; rw [if_pos ⟨rfl, rfl⟩]; rfl
      · rw [if_neg (by omega)]; exact z3 q (by omega)
    · obtain ⟨J3, z3⟩ := hI
      have R3 := R2.J J3
      obtain ⟨k1, k2⟩ := hk i hi
      have f1 : zgi g3 (m + 8) (2 * i) = nI (l.getD (3 * i) 0 - 48) := by rw [J3.gi (by omega), J2.gi (by omega)]; exact k1
      have f2 : zgi g3 (m + 8) (2 * i + 1) = nI (l.getD (3 * i + 1) 0 - 48) := by rw [J3.gi (by omega), J2.gi (by omega)]; exact k2
      have f3 : zgi g3 m 1 = nI (an A + i) := by rw [J3.gi (by omega)]; exact a1
      show zW (f_X12_parrots_129 N m (nI k) (nI i) (nI 36) g3) _
      unfold f_X12_parrots_129 f_X12_of
      rw [c_36, if_pos (nI_le (Nat.le_refl _) (by omega)), zW_map]
      refine w_rdR R3.s0 R3.r0 (w_rdI R3.s0 f3 ?_)
      rw [nI_mul, c_0, nI_add, Option.bind_some]
      refine w_rdR R3.s0 R3.r16 ?_
      rw [c_2, c_1, nI_mul, a20_80 R3.s8 (by omega), f1, Option.bind_some, w20_217 R3.s1 (by omega), Option.bind_some]
      obtain ⟨g4, hg4⟩ : ∃ g4, g4 = zsetI g3 (m + 1) (36 * (an A + i) + 0) (nI (l.getD (3 * i) 0 - 48)) := ⟨_, rfl⟩
      have J4 : zJ (fun a q => a = m + 1 ∧ q = 36 * (an A + i)) g3 g4 := by rw [hg4]; exact zJ.setI ⟨rfl, rfl⟩
      rw [← hg4]
      have R4 := R3.J J4
      refine w_rdR R4.s0 R4.r2 (w_rdI R4.s0 (show zgi g4 m 1 = nI (an A + i) by rw [J4.gi (by omega)]; exact f3) (w_rdR R4.s0 R4.r16 ?_))
      rw [nI_add, a20_80 R4.s8 (by omega), J4.gi (by omega), f2, Option.bind_some, w20_6 R4.s2 (by omega), Option.bind_some]
      obtain ⟨g5, hg5⟩ : ∃ g5, g5 = zsetI g4 (m + 2) (an A + i) (nI (l.getD (3 * i + 1) 0 - 48)) := ⟨_, rfl⟩
      have J5 : zJ (fun a q => a = m + 2 ∧ q = an A + i) g4 g5 := by rw [hg5]; exact zJ.setI ⟨rfl, rfl⟩
      rw [← hg5]
      have R5 := R4.J J5
      refine w_rdI R5.s0 (show zgi g5 m 1 = nI (an A + i) by rw [J5.gi (by omega), J4.gi (by omega)]; exact f3) ?_
      rw [p_wrI R5.s0, Option.bind_some, zW_some, zI_inr, zI_inl, nI_add, nI_add]
      have J6 : zJ (fun a q => a = m ∧ q = 1) g5 (zsetI g5 m 1 (nI (an A + i + 1))) := zJ.setI ⟨rfl, rfl⟩
      have JJ : zJ (fun a q => a = m ∧ q = 1 ∨ a = m + 1 ∧ 36 * (an A + i) ≤ q ∧ q < 36 * (an A + i) + 36 ∨ a = m + 2 ∧ q = an A + i) g2 (zsetI g5 m 1 (nI (an A + i + 1))) := (((J3.mono (fun a j z => by omega)).trans (J4.mono (fun a j z => by omega))).trans (J5.mono (fun a j z => by omega))).trans (J6.mono (fun a j z => by omega))
      have hz : ∀ q, 1 ≤ q → q < 36 → zgi (zsetI g5 m 1 (nI (an A + i + 1))) (m + 1) (36 * (an A + i) + q) = nI 0 := fun q h1 h2 => by rw [J6.gi (by omega), J5.gi (by omega), J4.gi (by omega)]; exact z3 q h2
      refine ⟨rfl, J2.trans (JJ.mono (fun a j z => by omega)), ?_, fun p hp => ?_, ?_, fun p hp => ?_⟩
      · show zgi (zsetI g5 m 1 (nI (an A + i + 1))) m 1 = _
        rw [gi_sI, if_pos ⟨rfl, rfl⟩]; rfl
      · show zgi (zsetI g5 m 1 (nI (an A + i + 1))) (m + 2) p = _
        by_cases e : p = an A + i
        · subst e
          rw [J6.gi (by omega), hg5, gi_sI, if_pos ⟨rfl, rfl⟩]
          unfold pme
          rw [if_neg (by omega), show an A + i - an A = i by omega]
        · rw [JJ.gi (by omega)]; exact a2 p (by omega)
      · show zgi (zsetI g5 m 1 (nI (an A + i + 1))) (m + 1) 216 = _
        rw [JJ.gi (by omega)]; exact a3.1
      · show RB (zsetI g5 m 1 (nI (an A + i + 1))) (m + 1) (36 * p) (pB A l p)
        by_cases e : p = an A + i
        · subst e
          unfold pB
          rw [if_neg (by omega), show an A + i - an A = i by omega]
          refine ⟨?_, hz 1 (by omega) (by omega), hz 2 (by omega) (by omega), hz 3 (by omega) (by omega), fun w hw => ⟨hz (4 + w) (by omega) (by omega), hz (12 + w) (by omega) (by omega), hz (20 + w) (by omega) (by omega), hz (28 + w) (by omega) (by omega)⟩⟩
          rw [J6.gi (by omega), J5.gi (by omega), hg4, gi_sI, if_pos ⟨rfl, rfl⟩]; rfl
        · exact (a3.2 p (by omega)).keepJ JJ (fun j h1 h2 => by omega)
  · obtain ⟨J2, a1, a2, a3⟩ := hI
    have R2 := hL.J J2
    show zW (f_X12_parrots_121 N m (nI k) (nI k) g2) _
    unfold f_X12_parrots_121
    rw [if_pos (nI_le (Nat.le_refl _) (by omega)), zW_map, p_wrI R2.s0, Option.bind_some]
    have J3 : zJ (fun a q => a = m ∧ q = 26) g2 (zsetI g2 m 26 0) := zJ.setI ⟨rfl, rfl⟩
    refine w_rdI (by rw [J3.sh]; exact R2.s0) (show zgi (zsetI g2 m 26 0) m 44 = nI (aC A) by rw [J3.gi (by omega), J2.gi (by omega)]; exact e44) ?_
    rw [p_wrI (by rw [J3.sh]; exact R2.s0), Option.bind_some, zW_some, c_1, nI_add]
    have J4 : zJ (fun a q => a = m ∧ q = 44) (zsetI g2 m 26 0) (zsetI (zsetI g2 m 26 0) m 44 (nI (aC A + 1))) := zJ.setI ⟨rfl, rfl⟩
    have JB : zJ (fun a q => a = m ∧ (q = 26 ∨ q = 44)) g2 (zsetI (zsetI g2 m 26 0) m 44 (nI (aC A + 1))) := (J3.mono (fun a j z => by omega)).trans (J4.mono (fun a j z => by omega))
    have JJ : zJ (fun a j => a = m ∧ (j = 1 ∨ j = 26 ∨ j = 44) ∨ a = m + 1 ∨ a = m + 2) g (zsetI (zsetI g2 m 26 0) m 44 (nI (aC A + 1))) := (J2.mono (fun a j z => by omega)).trans (JB.mono (fun a j z => by omega))
    refine ⟨rfl, JJ, hR.come hA ((JJ.toM (m := m)).mono (fun a j z => Or.inr z)) ⟨by rw [JB.gi (by omega)]; exact a1, fun p hp => by rw [JB.gi (by omega)]; exact a2 p hp, a3.keep hk6 JB (fun j _ => by omega)⟩ ?_ ?_⟩
    · rw [J4.gi (by omega), gi_sI, if_pos ⟨rfl, rfl⟩]; rfl
    · rw [gi_sI, if_pos ⟨rfl, rfl⟩]
theorem k_parrots (hN : 10000 ≤ N) : Call (fun x g => f_X11_parrots N x g) (fun m g => f_X12_parrots N m g) := call_s (fun x m c g A hC hA hc => by
  have n6 := hA.1.1
  have h80 := hA.2.2.1
  have h256 := hA.2.2.2.1
  have hL := hC.1.1
  obtain ⟨l, hl⟩ : ∃ l, l = aT A := ⟨_, rfl⟩
  rw [← hl] at h80 h256
  have hXT : XT g (x + 1) (x + 2) l := by rw [hl]; exact hC.1.2.1
  have t4 := hXT.2.2.2.1
  obtain ⟨q1, q2, q3, q4⟩ := pq_spec l (an A)
  have ebad := e_badP hN hC.1 hA hXT
  by_cases h0 : l.length = 0
  · refine ⟨0, sT A [], hA.noT.mono (Nat.le_succ c), ?_, fun g' hR => ?_⟩
    · unfold Cc f_X11_parrots
      have hr : f_X11_readParrots N x g = some (0, g) := by
        unfold f_X11_readParrots
        rw [p_rdR hL.s0, hL.r0_0, Option.bind_some, p_rdI hL.s1, t4, Option.bind_some, if_pos (by rw [h0]; rfl)]
      refine w_vs hL.s0 (w_eq hr ?_)
      exact c_noText hC.1 hC.2 hA
    · unfold Rc f_X12_parrots
      refine r_start hR hA (fun g1 J0 hR1 _ => ?_)
      have hRT : RT g1 m l := by rw [hl]; exact hR1.1.2.2.2.1
      refine w_vs hR1.1.1.s0 ?_
      rw [c_17]
      refine (s_beginText hR1.1.1 hRT (by omega)).bind (fun g2 h2 => ?_)
      obtain ⟨JB, D2, e14, e15, e7⟩ := h2
      have R2 : RI m g2 (sT A []) := r_noText hR1 hA JB (fun a j z => Or.inl z) e7
      refine w_rdI R2.1.1.s0 D2.2.2.2.2.1 ?_
      rw [if_pos (by rw [h0]; rfl), zW_some]
      exact ⟨rfl, (J0.toX (fun a j z => scm_in z) (by omega)).trans (JB.toX (fun a j z => by omega) (by omega)), R2⟩
  · by_cases hok : pq l (an A) = l.length ∧ l.length % 3 = 2
    · obtain ⟨ok1, ok2⟩ := hok
      obtain ⟨k, hk⟩ : ∃ k, k = (l.length + 1) / 3 := ⟨_, rfl⟩
      have st0 : ∀ i, i < k → 48 ≤ l.getD (3 * i) 0 ∧ l.getD (3 * i) 0 ≤ 51 ∧ an A + i < 6 := fun i h => of_decide_eq_true (pst0.symm.trans (q3 _ (by omega)))
      have st1 : ∀ i, i < k → 49 ≤ l.getD (3 * i + 1) 0 ∧ l.getD (3 * i + 1) 0 ≤ 56 := fun i h => of_decide_eq_true (pst1.symm.trans (q3 _ (by omega)))
      have hk6 : an A + k ≤ 6 := by have := (st0 (k - 1) (by omega)).2.2; omega
      have hAc : AI (sC A (an A + k) (pme A l) (pB A l)) c := hA.come (by omega) hk6 (fun p hp => by
        unfold pme
        by_cases e : p < an A
        · rw [if_pos e]; exact hA.1.2.1 p e
        · rw [if_neg e]; have := st1 (p - an A) (by omega); omega) (fun p hp => by
        unfold pB
        by_cases e : p < an A
        · rw [if_pos e]; exact hA.1.2.2.1 p e
        · rw [if_neg e]; have := st0 (p - an A) (by omega); exact mvB_BI b0_BI (by omega))
      refine ⟨nI k, sT (sC A (an A + k) (pme A l) (pB A l)) [], hAc.noT.mono (Nat.le_succ c), ?_, fun g' hR => ?_⟩
      · unfold Cc f_X11_parrots
        refine w_vs hL.s0 ?_
        have hr : zW (f_X11_readParrots N x g) (fun o => o.1 = nI k ∧ zJ (fun a j => x + 23 ≤ a ∧ a < x + 55 ∨ a = x + 87 ∧ j = 1) g o.2 ∧ CJ x o.2 (sC A (an A + k) (pme A l) (pB A l))) := by
          unfold f_X11_readParrots
          refine w_rdR hL.s0 hL.r0_0 (w_rdI hL.s1 t4 ?_)
          rw [if_neg (nI_ne0 (by omega) (by omega))]
          refine w_vs hL.s0 (w_eq ebad ?_)
          rw [show (if pq l (an A) < l.length then nI (pq l (an A)) else if l.length % 3 = 2 then -1 else nI l.length) = (-1 : Int32) from by rw [if_neg (show ¬ pq l (an A) < l.length by omega), if_pos ok2], if_pos rfl]
          refine w_rdR hL.s0 hL.r0_0 (w_rdI hL.s1 t4 ?_)
          rw [c_1, c_3, nI_add, nI_div (by omega) (by omega), ← hk]
          exact c_come hN hC.1 hA hXT hk6 (fun i hi => by have := st0 i hi; omega) (fun i hi => by have := st1 i hi; omega)
        refine hr.bind (fun o ho => ?_)
        obtain ⟨o1, J2, C2⟩ := ho
        refine (c_noText (A := sC A (an A + k) (pme A l) (pB A l)) (r := o.1) C2 (hC.2.stay J2 (fun a j z => by omega)) hAc).mono (fun o' h' => ?_)
        exact ⟨h'.1.trans o1, (J2.toX (fun a j z => by omega)).trans h'.2.1, h'.2.2⟩
      · unfold Rc f_X12_parrots
        refine r_start hR hA (fun g1 J0 hR1 _ => ?_)
        have hRT : RT g1 m l := by rw [hl]; exact hR1.1.2.2.2.1
        refine w_vs hR1.1.1.s0 ?_
        rw [c_17]
        refine (s_beginText hR1.1.1 hRT (by omega)).bind (fun g2 h2 => ?_)
        obtain ⟨JB, D2, e14, e15, e7⟩ := h2
        have R2 : RI m g2 (sT A []) := r_noText hR1 hA JB (fun a j z => Or.inl z) e7
        have Z2 := (J0.toX (fun a j z => scm_in z) (show m ≤ m ∧ m < m + 33 by omega)).trans (JB.toX (hi := m + 33) (fun a j z => by omega) (by omega))
        refine w_rdI R2.1.1.s0 D2.2.2.2.2.1 ?_
        rw [if_neg (nI_ne0 (by omega) (by omega))]
        refine r_lines hN R2.1.1 D2 R2.1.2.2.2.2.2.2.1.1 hA.noT e14 e15 (fun _ _ g3 J3 hk3 => ?_) (fun h => absurd ⟨ok1, ok2⟩ h)
        have R3 := R2.1.keep hA.noT (J3.toM (m := m)) (fun a j z => by omega)
        rw [← hk] at hk3 ⊢
        refine (r_come (l := l) hN R3 hA.noT hk6 hk3).mono (fun o ho => ?_)
        obtain ⟨o1, J4, R4⟩ := ho
        refine ⟨o1, (Z2.trans (J3.toX (fun a j z => by omega))).trans (J4.toX (fun a j z => by omega)), R4, ?_⟩
        exact (R2.2.keepM (J3.toM (m := m)) (by omega) (fun j => by omega)).keepM (J4.toM (m := m)) (by omega) (fun j => by omega)
    · refine ⟨(-1 : Int32) - nI (pq l (an A)), sT A [], hA.noT.mono (Nat.le_succ c), ?_, fun g' hR => ?_⟩
      · unfold Cc f_X11_parrots
        have hr : f_X11_readParrots N x g = some ((-1 : Int32) - nI (pq l (an A)), g) := by
          unfold f_X11_readParrots
          rw [p_rdR hL.s0, hL.r0_0, Option.bind_some, p_rdI hL.s1, t4, Option.bind_some, if_neg (nI_ne0 (by omega) (by omega)), p_vs hL.s0, ebad, Option.bind_some]
          have hv : (if pq l (an A) < l.length then nI (pq l (an A)) else if l.length % 3 = 2 then -1 else nI l.length) = nI (pq l (an A)) := by
            by_cases e : pq l (an A) < l.length
            · rw [if_pos e]
            · rw [if_neg e, if_neg (fun h => hok ⟨by omega, h⟩), show pq l (an A) = l.length by omega]
          rw [hv, if_neg (fun h' => (neg1_ne (by omega)).mp h')]
        refine w_vs hL.s0 (w_eq hr ?_)
        exact c_noText hC.1 hC.2 hA
      · unfold Rc f_X12_parrots
        refine r_start hR hA (fun g1 J0 hR1 _ => ?_)
        have hRT : RT g1 m l := by rw [hl]; exact hR1.1.2.2.2.1
        refine w_vs hR1.1.1.s0 ?_
        rw [c_17]
        refine (s_beginText hR1.1.1 hRT (by omega)).bind (fun g2 h2 => ?_)
        obtain ⟨JB, D2, e14, e15, e7⟩ := h2
        have R2 : RI m g2 (sT A []) := r_noText hR1 hA JB (fun a j z => Or.inl z) e7
        have Z2 := (J0.toX (fun a j z => scm_in z) (show m ≤ m ∧ m < m + 33 by omega)).trans (JB.toX (hi := m + 33) (fun a j z => by omega) (by omega))
        refine w_rdI R2.1.1.s0 D2.2.2.2.2.1 ?_
        rw [if_neg (nI_ne0 (by omega) (by omega))]
        refine r_lines hN R2.1.1 D2 R2.1.2.2.2.2.2.2.1.1 hA.noT e14 e15 (fun h1 h2 => absurd ⟨h1, h2⟩ hok) (fun _ g3 J3 => ?_)
        exact ⟨rfl, Z2.trans (J3.toX (fun a j z => by omega)), R2.1.keep hA.noT (J3.toM (m := m)) (fun a j z => by omega), R2.2.keepM (J3.toM (m := m)) (by omega) (fun j => by omega)⟩)
end PC
