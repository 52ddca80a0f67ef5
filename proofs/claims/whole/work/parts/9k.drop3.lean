/-! drop, the reference, and both -/
theorem pc_full' {n : Nat} (h12 : n ≤ 12) : n ≤ pc (2 ^ n - 1) := by
  have : ∀ n, n ≤ 12 → n ≤ pc (2 ^ n - 1) := by decide +kernel
  exact this n h12
section DF
variable {N x m c : Nat} {g g' : ZS} {A : ZA}
theorem r_canBe {D : Nat} (hN : 10000 ≤ N) (hR : RJ m g A) (hA : AI A c) (hD : D < 4096) : zW (f_X12_canBe N m (nI D) g) (fun o => zJ (fun a _ => a = m + 25) g o.2 ∧ ((o.1 = 1 ∧ Cn (aP A) (bD D) 255) ∨ (o.1 = 0 ∧ ¬ Cn (aP A) (bD D) 255))) := by
  obtain ⟨p12, hP⟩ := hA.2.2.2.2.2.2.2.2.1
  unfold f_X12_canBe
  refine w_vs hR.1.s0 ((r_behind hN hR hA (dr := D) (Nat.lt_trans hD (by decide))).bind (fun g1 h1 => ?_))
  obtain ⟨J1, e1⟩ := h1
  have R1 := (hR.keep hA (J1.toM (m := m)) (fun a j z => by omega)).1
  have hM : ∀ w, w < 8 → eM (aP A) D w (aP A).length < 256 := fun w _ => eM_lt _ (fun i hi => (hP i hi).2.1)
  -- the test of a word
  have test : ∀ w l, w < 8 → l < 256 → ((eM (aP A) D w (aP A).length &&& l = 0) ↔ ∀ i, i < (aP A).length → bD D i = false → ((aP A).getD i e0).1 = w → ¬ l / 2 ^ ((aP A).getD i e0).2 % 2 = 1) := by
    intro w l hw hl
    constructor
    · intro h i hi hq ha hb
      have hne : ¬ eM (aP A) D w (aP A).length &&& l = 0 := (and_ne (hM w hw)).mpr ⟨((aP A).getD i e0).2, (hP i hi).2.1, (eM_bit _).mpr ⟨i, hi, (fun h => by rw [bD_t.mpr h] at hq; cases hq), ha, rfl⟩, hb⟩
      exact hne h
    · intro h
      refine Decidable.byContradiction (fun hne => ?_)
      obtain ⟨u, hu, b1, b2⟩ := (and_ne (hM w hw)).mp hne
      obtain ⟨i, hi, hd, ha, hb⟩ := (eM_bit _).mp b1
      refine h i hi (decide_eq_false hd) ha ?_
      rw [hb]; exact b2
  refine zW_while (fun k s => ∃ l ch, s = (nI l, nI ch) ∧ l < 256 ∧ ch < 2 ∧ k = 2 * l + ch ∧ (Cn (aP A) (bD D) 255 ↔ Cn (aP A) (bD D) l) ∧ (ch = 0 → ∀ w, w < 8 → l / 2 ^ w % 2 = 1 → ¬ eM (aP A) D w (aP A).length &&& l = 0)) (fun k s hs => ?_) 511 N _ (by omega) ⟨255, 1, rfl, by omega, by omega, rfl, Iff.rfl, fun h => absurd h (by decide)⟩
  obtain ⟨l, ch, rfl, hl, hch, hk, hiff, hst⟩ := hs
  show zW (f_X12_canBe_11 N m (nI l) (nI ch) g1) _
  unfold f_X12_canBe_11 f_X12_canBe_75 f_X12_canBe_84
  by_cases el : l = 0
  · subst el
    rw [if_pos (show nI 0 = 0 from rfl), if_pos (show nI 0 = 0 from rfl), if_pos (show vp_nar .boolean (1 : Int32) = 1 from rfl), Option.map_some, zW_some, zI_inr]
    exact ⟨J1, Or.inl ⟨rfl, hiff.mpr ⟨[], rfl⟩⟩⟩
  · have hl0 : ¬ nI l = 0 := fun h => el ((nI_eq (by omega) (by omega)).mp h)
    rw [if_neg hl0, if_neg hl0]
    by_cases ec : ch = 0
    · subst ec
      rw [if_pos (show nI 0 = 0 from rfl), if_pos (show vp_nar .boolean (0 : Int32) = 0 from rfl), Option.map_some, zW_some, zI_inr]
      refine ⟨J1, Or.inr ⟨rfl, fun h => ?_⟩⟩
      refine Cn.stuck el (fun w hw hb => ?_) (hiff.mp h)
      have := hst rfl w hw hb
      obtain ⟨u, hu, b1, b2⟩ := (and_ne (hM w hw)).mp this
      obtain ⟨i, hi, hd, ha, hb'⟩ := (eM_bit _).mp b1
      exact ⟨i, hi, decide_eq_false hd, ha, by rw [hb']; exact b2⟩
    · have ec1 : ch = 1 := by omega
      subst ec1
      rw [if_neg (show ¬ nI 1 = 0 by decide)]
      refine zW_for (fun w s => ∃ l' ch', s = (nI l', nI ch', nI w) ∧ l' < 256 ∧ (Cn (aP A) (bD D) 255 ↔ Cn (aP A) (bD D) l') ∧ ((ch' = 0 ∧ l' = l ∧ ∀ u, u < w → l / 2 ^ u % 2 = 1 → ¬ eM (aP A) D u (aP A).length &&& l = 0) ∨ (ch' = 1 ∧ l' < l))) 8 (fun w s hw hs => ?_) (fun s hs => ?_) (by omega) (Nat.zero_le _) ⟨l, 0, rfl, hl, hiff, Or.inl ⟨rfl, rfl, fun u hu => absurd hu (Nat.not_lt_zero u)⟩⟩
      · obtain ⟨l', ch', rfl, hl', hiff', hcase⟩ := hs
        show zW (f_X12_canBe_24 N m (nI l') (nI ch') (nI w) g1) _
        unfold f_X12_canBe_24 f_X12_canBe_66
        rw [c_8, if_neg (nI_ge hw (by omega)), e_has (by omega) (by omega), Option.bind_some]
        by_cases eb : l' / 2 ^ w % 2 = 1
        · rw [if_neg (bI_ne (decide_eq_true eb))]
          refine w_rdR R1.s0 R1.r37 ?_
          rw [a20_8 R1.s25 hw, e1 w hw, Option.bind_some, nI_and]
          have hK := hM w hw
          have hKl : eM (aP A) D w (aP A).length &&& l' < 256 := Nat.lt_of_le_of_lt Nat.and_le_left hK
          by_cases e0' : eM (aP A) D w (aP A).length &&& l' = 0
          · rw [e0', if_pos (show nI 0 = 0 from rfl), zW_some, zI_inl, show nI l' &&& (((1 : Int32) <<< (nI w &&& 31)) ^^^ (-1 : Int32)) = nI (l' - 2 ^ w) from (cl_bit l' hl' w hw eb).2, c_1, nI_add]
            have h1 := (cl_bit l' hl' w hw eb).1
            have h2 := Nat.two_pow_pos w
            refine ⟨l' - 2 ^ w, 1, rfl, by omega, hiff'.trans (Cn.step hP hl' hw eb ((test w l' hw hl').mp e0')), Or.inr ⟨rfl, ?_⟩⟩
            rcases hcase with h | h
            · omega
            · omega
          · rw [if_neg (show ¬ nI (eM (aP A) D w (aP A).length &&& l') = 0 from fun h => e0' ((nI_eq (by omega) (by omega)).mp h)), zW_some, zI_inl, c_1, nI_add]
            refine ⟨l', ch', rfl, hl', hiff', ?_⟩
            rcases hcase with ⟨h1, h2, h3⟩ | h
            · refine Or.inl ⟨h1, h2, fun u hu hb => ?_⟩
              by_cases eu : u = w
              · rw [eu, ← h2]; exact e0'
              · exact h3 u (by omega) hb
            · exact Or.inr h
        · rw [if_pos (bI_eq (decide_eq_false eb)), zW_some, zI_inl, c_1, nI_add]
          refine ⟨l', ch', rfl, hl', hiff', ?_⟩
          rcases hcase with ⟨h1, h2, h3⟩ | h
          · refine Or.inl ⟨h1, h2, fun u hu hb => ?_⟩
            by_cases eu : u = w
            · rw [eu, ← h2] at hb; exact absurd hb eb
            · exact h3 u (by omega) hb
          · exact Or.inr h
      · obtain ⟨l', ch', rfl, hl', hiff', hcase⟩ := hs
        show zW (f_X12_canBe_24 N m (nI l') (nI ch') (nI 8) g1) _
        unfold f_X12_canBe_24
        rw [c_8, if_pos (nI_le (Nat.le_refl _) (by omega)), Option.map_some, zW_some, zI_inr, zI_inl]
        rcases hcase with ⟨h1, h2, h3⟩ | ⟨h1, h2⟩
        · subst h1 h2
          exact ⟨2 * l' + 0, by omega, l', 0, rfl, hl', by omega, rfl, hiff', fun _ => h3⟩
        · subst h1
          exact ⟨2 * l' + 1, by omega, l', 1, rfl, hl', by omega, rfl, hiff', fun h => absurd h (by decide)⟩
theorem k_drop (hN : 10000 ≤ N) : Call (fun x g => f_X11_drop N x g) (fun m g => f_X12_drop N m g) := call_q (fun x m c g A hC hA hc => by
  obtain ⟨p12, hP⟩ := hA.2.2.2.2.2.2.2.2.1
  obtain ⟨o, ho, ⟨v, hv, hok⟩, J1⟩ := c_least hN hC.1 hA
  obtain ⟨y, g1⟩ := o
  dsimp only at hv J1
  subst hv
  obtain ⟨D, hD, hvD, hcan, hmin⟩ := hok.out p12
  have hp : 2 ^ (aP A).length ≤ 2 ^ 12 := p2_le p12
  have hp12 : 2 ^ 12 = 4096 := rfl
  have hpc := pc_le p12 hD
  have hv1 : v / 4096 = pc D := by omega
  have hv2 : v % 4096 = D := by omega
  refine ⟨nI (pc D), [wL D], by simp, ?_, fun g' hR => ?_⟩
  · unfold QC f_X11_drop
    refine w_rdR hC.1.1.s0 hC.1.1.r0_14 (w_vs hC.1.1.s506 (w_eq ho ?_))
    have C1 := hC.1.keep hA J1 (fun a j z => by omega)
    dsimp only
    rw [show nI v &&& (4095 : Int32) = nI D by rw [show (4095 : Int32) = nI 4095 from rfl, nI_and, show (4095 : Nat) = 2 ^ 12 - 1 from rfl, Nat.and_two_pow_sub_one_eq_mod, hp12, hv2]]
    refine c_only C1 hA (fun g2 J2 W2 _ => ?_)
    rw [zW_some]
    refine ⟨?_, (J1.mono (fun a j z => by omega)).trans (J2.mono (fun a j z => by omega)), W2⟩
    show nI v >>> (nI 12 &&& 31) = nI (pc D)
    rw [pk_shrN (by omega) _ 12 (sh31 12 (by omega)), ← hv1]
  · unfold QF f_X12_drop
    refine r_start hR hA (fun g1 J0 hR1 _ => ?_)
    have hlen := hR1.1.2.2.2.2.2.2.2.2.2.1.1
    refine w_rdI hR1.1.1.s0 hlen ?_
    rw [shl_e (aP A).length (by omega)]
    have hpos := Nat.two_pow_pos (aP A).length
    rw [c_1, nI_sub hpos, c_0]
    refine zW_forAI (fun n a g' => zJ (fun a _ => a = m + 25) g1 g' ∧ ∃ B, a = nI B ∧ B < 2 ^ (aP A).length ∧ Cn (aP A) (bD B) 255 ∧ (B < n ∨ B = 2 ^ (aP A).length - 1) ∧ ∀ D', D' < n → Cn (aP A) (bD D') 255 → 4096 * pc B + B ≤ 4096 * pc D' + D') (2 ^ (aP A).length) (fun n a g2 hn hI => ?_) (fun a g2 hI => ?_) (by omega) ⟨zJ.rfl, 2 ^ (aP A).length - 1, rfl, by omega, ?_, Or.inr rfl, fun D' h => absurd h (Nat.not_lt_zero D')⟩
    · obtain ⟨J2, B, rfl, hB, hc, hwhere, hle⟩ := hI
      have R2 := hR1.1.keep hA (J2.toM (m := m)) (fun a j z => by omega)
      have hlen2 := R2.2.2.2.2.2.2.2.2.2.1.1
      show zW (f_X12_drop_16 N m (nI B) (nI n) g2) _
      unfold f_X12_drop_16 f_X12_drop_47
      refine w_rdI R2.1.s0 hlen2 ?_
      rw [shl_e (aP A).length (by omega), if_neg (nI_ge hn (by omega)), bc4096 (by omega), Option.bind_some, bc4096 (by omega), Option.bind_some]
      have hpB := pc_le p12 hB
      have hpn := pc_le p12 hn
      by_cases e : pc B ≤ pc n
      · rw [if_pos (nI_le e (by omega)), zW_some, zI_inl, c_1, nI_add]
        refine ⟨rfl, J2, B, rfl, hB, hc, by omega, fun D' h' hc' => ?_⟩
        by_cases eD : D' = n
        · subst eD
          by_cases e2 : pc B = pc D'
          · rcases hwhere with h | h
            · omega
            · have : (aP A).length ≤ pc B := by
                rw [h]
                have h1 := pc_full' (n := (aP A).length) p12
                omega
              have := pc_full p12 hn (by omega)
              omega
          · omega
        · exact hle D' (by omega) hc'
      · rw [if_neg (nI_ge (by omega) (by omega))]
        refine w_vs R2.1.s0 ((r_canBe hN R2 hA (by omega)).bind (fun o ho => ?_))
        obtain ⟨y, g3⟩ := o
        obtain ⟨J3, hcase⟩ := ho
        dsimp only at J3 hcase ⊢
        rcases hcase with ⟨h1, h2⟩ | ⟨h1, h2⟩
        · rw [if_neg (by rw [h1]; decide), zW_some, zI_inl, c_1, nI_add]
          refine ⟨rfl, J2.trans J3, n, rfl, hn, h2, by omega, fun D' h' hc' => ?_⟩
          by_cases eD : D' = n
          · subst eD; exact Nat.le_refl _
          · have := hle D' (by omega) hc'
            omega
        · rw [if_pos h1, zW_some, zI_inl, c_1, nI_add]
          refine ⟨rfl, J2.trans J3, B, rfl, hB, hc, by omega, fun D' h' hc' => ?_⟩
          by_cases eD : D' = n
          · subst eD; exact absurd hc' h2
          · exact hle D' (by omega) hc'
    · obtain ⟨J2, B, rfl, hB, hc, hwhere, hle⟩ := hI
      have R2 := hR1.1.keep hA (J2.toM (m := m)) (fun a j z => by omega)
      have hlen2 := R2.2.2.2.2.2.2.2.2.2.1.1
      show zW (f_X12_drop_16 N m (nI B) (nI (2 ^ (aP A).length)) g2) _
      unfold f_X12_drop_16
      refine w_rdI R2.1.s0 hlen2 ?_
      have h1 := hle D hD hcan
      have h2 := hmin B hB hc
      have hBD : B = D := by omega
      subst hBD
      rw [shl_e (aP A).length (by omega), if_pos (nI_le (Nat.le_refl _) (by omega)), zW_map]
      refine r_only R2 hA (fun g4 J4 W4 R4 => ?_)
      rw [bc4096 (by omega), Option.bind_some, zW_some, zI_inr]
      exact ⟨rfl, (J0.trans ((J2.toM (m := m)).mono (fun a j z => by omega))).trans ((J4.toM (m := m)).mono (fun a j z => by omega)), W4⟩
    · -- with all tellings dropped every row stands
      have full : ∀ i, i < (aP A).length → bD (2 ^ (aP A).length - 1) i = true := fun i hi => bD_t.mpr (by
        have h := Nat.testBit_two_pow_sub_one (aP A).length i
        rw [decide_eq_true hi, Nat.testBit_eq_decide_div_mod_eq] at h
        exact of_decide_eq_true h)
      refine Cn.mono (q := fun _ => true) (fun i hi _ => full i hi) ⟨[0, 1, 2, 3, 4, 5, 6, 7], ?_⟩
      have nf : ∀ i, i < (aP A).length → (fun _ : Nat => true) i = false → ∀ w S, ((aP A).getD i e0).1 = w → ¬ S / 2 ^ ((aP A).getD i e0).2 % 2 = 1 := fun i _ h => absurd (show true = false from h) (by decide)
      exact ⟨by decide, by decide, fun i hi h => nf i hi h _ _, by decide, by decide, fun i hi h => nf i hi h _ _, by decide, by decide, fun i hi h => nf i hi h _ _, by decide, by decide, fun i hi h => nf i hi h _ _, by decide, by decide, fun i hi h => nf i hi h _ _, by decide, by decide, fun i hi h => nf i hi h _ _, by decide, by decide, fun i hi h => nf i hi h _ _, by decide, by decide, fun i hi h => nf i hi h _ _, rfl⟩)
end DF
