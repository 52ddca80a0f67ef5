/-! ===== sign ===== -/
theorem and255 (v : Int32) : ∃ b, b < 256 ∧ v &&& 255 = nI b := by
  refine ⟨(v.toBitVec &&& 255#32).toNat, ?_, ?_⟩
  · rw [BitVec.toNat_and]
    exact Nat.lt_of_le_of_lt Nat.and_le_right (by decide)
  · apply Int32.toBitVec_inj.1
    rw [Int32.toBitVec_and]
    apply BitVec.eq_of_toNat_eq
    have h : (v.toBitVec &&& 255#32).toNat < 256 := by
      rw [BitVec.toNat_and]; exact Nat.lt_of_le_of_lt Nat.and_le_right (by decide)
    show (v.toBitVec &&& 255#32).toNat = (BitVec.ofNat 32 (v.toBitVec &&& 255#32).toNat).toNat
    rw [BitVec.toNat_ofNat, Nat.mod_eq_of_lt (by omega)]
theorem ch_nar : ∀ b, b < 256 → ((nI b).toUInt32 % 65536).toInt32 = nI b := by decide +kernel
theorem bt255 : ∀ i, i < 8 → bt (255 : Int32) i = true := by decide +kernel
/-- a byte of a number, as both write it -/
theorem byte2 (v : Int32) (n : Nat) (hn : n ≤ 24) : ∃ b, b < 256 ∧ ((((v.toUInt32 >>> ((nI n).toUInt32 &&& Int32.toUInt32 31)).toInt32) &&& (255 : Int32)).toUInt32 % 65536).toInt32 = nI b ∧ (v >>> (nI n &&& 31)).toInt8.toInt32 = sx b := by
  obtain ⟨b, hb, e⟩ := and255 ((v.toUInt32 >>> ((nI n).toUInt32 &&& Int32.toUInt32 31)).toInt32)
  refine ⟨b, hb, by rw [e, ch_nar b hb], ?_⟩
  unfold sx
  rw [← e]
  congr 1
  apply Int8.toBitVec_inj.1
  apply BitVec.eq_of_getLsbD_eq
  intro i hi
  show (BitVec.signExtend 8 (v >>> (nI n &&& 31)).toBitVec).getLsbD i = (BitVec.signExtend 8 ((v.toUInt32 >>> ((nI n).toUInt32 &&& Int32.toUInt32 31)).toInt32 &&& (255 : Int32)).toBitVec).getLsbD i
  rw [BitVec.getLsbD_signExtend, BitVec.getLsbD_signExtend]
  have h1 := b_sshr n (by omega) v (show i < 32 by omega)
  rw [if_pos (show n + i < 32 by omega)] at h1
  have h2 : bt ((v.toUInt32 >>> ((nI n).toUInt32 &&& Int32.toUInt32 31)).toInt32 &&& (255 : Int32)) i = bt v (n + i) := by
    rw [b_and, b_ushr n (by omega), bt255 i hi, Bool.and_true]
  have h3 : (v >>> (nI n &&& 31)).toBitVec.getLsbD i = ((v.toUInt32 >>> ((nI n).toUInt32 &&& Int32.toUInt32 31)).toInt32 &&& (255 : Int32)).toBitVec.getLsbD i := h1.trans h2.symm
  rw [h3, if_pos (show i < 32 by omega), if_pos (show i < 32 by omega)]
noncomputable def bs (v : Int32) (j : Nat) : Nat := Classical.choose (byte2 v (24 - 8 * j) (by omega))
theorem bs_spec (v : Int32) (j : Nat) : bs v j < 256 ∧ ((((v.toUInt32 >>> ((nI (24 - 8 * j)).toUInt32 &&& Int32.toUInt32 31)).toInt32) &&& (255 : Int32)).toUInt32 % 65536).toInt32 = nI (bs v j) ∧ (v >>> (nI (24 - 8 * j) &&& 31)).toInt8.toInt32 = sx (bs v j) := Classical.choose_spec (byte2 v (24 - 8 * j) (by omega))
noncomputable def l4 (l : List Nat) (v : Int32) : Nat → List Nat
  | 0 => l
  | i + 1 => l4 l v i ++ [bs v i]
theorem l4_len {l : List Nat} {v : Int32} : ∀ i, (l4 l v i).length = l.length + i
  | 0 => rfl
  | i + 1 => by show (l4 l v i ++ [bs v i]).length = l.length + (i + 1); rw [List.length_append, l4_len i]; rfl
theorem l4_256 {l : List Nat} {v : Int32} (h : ∀ p, l.getD p 0 < 256) : ∀ i p, (l4 l v i).getD p 0 < 256
  | 0, p => h p
  | i + 1, p => by
    show (l4 l v i ++ [bs v i]).getD p 0 < 256
    rw [getD_apn]
    split
    · exact l4_256 h i p
    · split
      · exact (bs_spec v i).1
      · omega
theorem st24 : ∀ i, i < 4 → nI (24 - 8 * i) + (-8 : Int32) = (if i + 1 < 4 then nI (24 - 8 * (i + 1)) else -8) := by decide +kernel
theorem st3 : ∀ i, i < 4 → nI (3 - i) + (-1 : Int32) = (if i + 1 < 4 then nI (3 - (i + 1)) else -1) := by decide +kernel
section SG4
variable {N x m c : Nat} {g g1 g2 g3 g' : ZS} {A : ZA}
theorem s_add8 {t u : Nat} {l : List Nat} {v : Int32} (hN : 10000 ≤ N) (hX : XT g t u l) (h : l.length + 4 ≤ 80) (htu : t ≠ u) : zW (f_X8_add N t v g) (fun o => o.1 = 1 ∧ zJ (fun a j => a = t ∧ j = 1 ∨ a = u) g o.2 ∧ XT o.2 t u (l4 l v 4)) := by
  unfold f_X8_add
  refine w_rdI hX.1 hX.2.2.2.1 ?_
  rw [c_4, nI_add, c_80, if_pos (nI_le h (by omega))]
  refine zW_for (fun i (s : Int32 × ZS) => s.1 = (if i < 4 then nI (24 - 8 * i) else -8) ∧ zJ (fun a j => a = t ∧ j = 1 ∨ a = u) g s.2 ∧ XT s.2 t u (l4 l v i)) 4 (fun i s hi hs => ?_) (fun s hs => ?_) (by omega) (Nat.zero_le _) ⟨rfl, zJ.rfl, hX⟩
  · obtain ⟨s1, g1⟩ := s
    obtain ⟨e1, J1, X1⟩ := hs
    dsimp only at e1 J1 X1
    rw [if_pos hi] at e1
    subst e1
    obtain ⟨t1, t2, t3, t4, t5, t6⟩ := X1
    obtain ⟨q1, q2, q3⟩ := bs_spec v i
    have len := l4_len (l := l) (v := v) i
    show zW (f_X8_add_16 N t v (nI (24 - 8 * i)) g1) _
    unfold f_X8_add_16
    rw [if_neg (by rw [c_0]; exact nI_nlt (by omega) (by omega))]
    refine w_rdR t1 t3 (w_rdI t1 t4 ?_)
    rw [q2, p_ast (n := 80) t2 (show (l4 l v i).length < 80 by omega) (by decide), show vp_nar (zta 23) (nI (bs v i)) = nI (bs v i) from char_nI q1, Option.bind_some]
    refine w_rdI (by exact t1) (show zgi (zsetI g1 u (l4 l v i).length (nI (bs v i))) t 1 = nI (l4 l v i).length by rw [gi_sI, if_neg (by omega)]; exact t4) ?_
    rw [c_1, nI_add, p_wrI (by exact t1), Option.bind_some, zW_some, zI_inl, st24 i hi]
    refine ⟨rfl, (J1.setI' (by omega)).setI' (by omega), t1, t2, t3, ?_, ?_, fun j hj => ?_⟩
    · rw [gi_sI, if_pos ⟨rfl, rfl⟩, l4_len, l4_len]; rfl
    · rw [l4_len]; omega
    · rw [l4_len] at hj
      show zgi (zsetI (zsetI g1 u (l4 l v i).length (nI (bs v i))) t 1 (nI ((l4 l v i).length + 1))) u j = nI ((l4 l v i ++ [bs v i]).getD j 0) ∧ (l4 l v i ++ [bs v i]).getD j 0 < 256
      rw [gi_sI, if_neg (by omega), gi_sI, getD_apn]
      by_cases e : j = (l4 l v i).length
      · rw [if_pos ⟨rfl, e⟩, if_neg (by omega), if_pos e]; exact ⟨rfl, q1⟩
      · rw [if_neg (by omega), if_pos (by omega)]; exact t6 j (by omega)
  · obtain ⟨s1, g1⟩ := s
    obtain ⟨e1, J1, X1⟩ := hs
    dsimp only at e1 J1 X1
    rw [if_neg (by omega)] at e1
    subst e1
    show zW (f_X8_add_16 N t v (-8) g1) _
    unfold f_X8_add_16
    rw [if_pos (by decide), Option.map_some, zW_some, zI_inr]
    exact ⟨rfl, J1, X1⟩
theorem k_sign (hN : 10000 ≤ N) (v : Int32) : Call (fun x g => f_X11_sign N x v g) (fun m g => f_X12_sign N m v g) := call_s (fun x m c g A hC hA hc => by
  have h80 := hA.2.2.1
  have h256 := hA.2.2.2.1
  have hL := hC.1.1
  obtain ⟨l, hl⟩ : ∃ l, l = aT A := ⟨_, rfl⟩
  rw [← hl] at h80 h256
  have hXT : XT g (x + 1) (x + 2) l := by rw [hl]; exact hC.1.2.1
  by_cases h : l.length + 4 ≤ 80
  · refine ⟨nI (l.length + 4), sT A (l4 l v 4), (hA.setT (by rw [l4_len]; exact h) (l4_256 h256 4)).mono (Nat.le_succ c), ?_, fun g' hR => ?_⟩
    · unfold Cc f_X11_sign f_X11_sign_22
      refine w_rdR hL.s0 hL.r0_0 (w_vs hL.s1 ((s_add8 hN hXT h (by omega)).bind (fun o ho => ?_)))
      obtain ⟨o1, J2, X2⟩ := ho
      rw [o1, if_neg (by decide)]
      refine w_rdR (by rw [J2.sh]; exact hL.s0) (by rw [J2.gr]; exact hL.r0_0) (w_rdI (by rw [J2.sh]; exact hL.s1) X2.2.2.2.1 ?_)
      rw [zW_some, l4_len]
      exact ⟨rfl, J2.toX (fun a j z => by omega), hC.1.setT hA (J2.mono (fun a j z => Or.inr z)) X2, hC.2.stay J2 (fun a j z => by omega)⟩
    · unfold Rc f_X12_sign
      refine r_start hR hA (fun g1 J0 hR1 _ => ?_)
      have hRT : RT g1 m l := by rw [hl]; exact hR1.1.2.2.2.1
      have hLR := hR1.1.1
      refine w_rdI hLR.s0 hRT.1 ?_
      rw [c_4, nI_add, c_80, if_pos (nI_le h (by omega))]
      refine zW_for (fun i (s : Int32 × ZS) => s.1 = (if i < 4 then nI (3 - i) else -1) ∧ zJ (fun a j => a = m ∧ j = 7 ∨ a = m + 6) g1 s.2 ∧ RT s.2 m (l4 l v i)) 4 (fun i s hi hs => ?_) (fun s hs => ?_) (by omega) (Nat.zero_le _) ⟨rfl, zJ.rfl, hRT⟩
      · obtain ⟨s1, g2⟩ := s
        obtain ⟨e1, J2, t4, t5, t6⟩ := hs
        dsimp only at e1 J2 t4 t5 t6
        rw [if_pos hi] at e1
        subst e1
        obtain ⟨q1, q2, q3⟩ := bs_spec v i
        have len := l4_len (l := l) (v := v) i
        have s0 : zsh g2 m = some (12, 0) := by rw [J2.sh]; exact hLR.s0
        have s6 : zsh g2 (m + 6) = some (21, 80) := by rw [J2.sh]; exact hLR.s6
        show zW (f_X12_sign_20 N m v (nI (3 - i)) g2) _
        unfold f_X12_sign_20
        rw [if_neg (by rw [c_0]; exact nI_nlt (by omega) (by omega))]
        refine w_rdR s0 (by rw [J2.gr]; exact hLR.r6) (w_rdI s0 t4 ?_)
        rw [c_1, nI_add, p_wrI s0, Option.bind_some, c_8, nI_mul, show 8 * (3 - i) = 24 - 8 * i by omega, q3, p_ast (n := 80) (by exact s6) (show (l4 l v i).length < 80 by omega) (by decide), sx_nar _ q1, Option.bind_some, zW_some, zI_inl]
        refine ⟨st3 i hi, (J2.setI' (by omega)).setI' (by omega), ?_, ?_, fun j hj => ?_⟩
        · dsimp only; rw [gi_sI, if_neg (by omega), gi_sI, if_pos ⟨rfl, rfl⟩, l4_len, l4_len]; rfl
        · rw [l4_len]; omega
        · rw [l4_len] at hj
          show zgi (zsetI (zsetI g2 m 7 (nI ((l4 l v i).length + 1))) (m + 6) (l4 l v i).length (sx (bs v i))) (m + 6) j = sx ((l4 l v i ++ [bs v i]).getD j 0) ∧ (l4 l v i ++ [bs v i]).getD j 0 < 256
          rw [gi_sI, getD_apn]
          by_cases e : j = (l4 l v i).length
          · rw [if_pos ⟨rfl, e⟩, if_neg (by omega), if_pos e]; exact ⟨rfl, q1⟩
          · rw [if_neg (by omega), if_pos (by omega), gi_sI, if_neg (by omega)]; exact t6 j (by omega)
      · obtain ⟨s1, g2⟩ := s
        obtain ⟨e1, J2, X2⟩ := hs
        dsimp only at e1 J2 X2
        rw [if_neg (by omega)] at e1
        subst e1
        show zW (f_X12_sign_20 N m v (-1) g2) _
        unfold f_X12_sign_20
        rw [if_pos (by decide), zW_map]
        refine w_rdI (by rw [J2.sh]; exact hLR.s0) X2.1 ?_
        rw [zW_some, l4_len]
        exact ⟨rfl, (J0.toX (fun a j z => scm_in z) (by omega)).trans (J2.toX (fun a j z => by omega)), hR1.1.setT hA ((J2.toM (m := m)).mono (fun a j z => Or.inr z)) X2, hR1.2.keepM (J2.toM (m := m)) (by omega) (fun j => by omega)⟩
  · refine ⟨-1, A, hA.mono (Nat.le_succ c), ?_, fun g' hR => ?_⟩
    · have ha : f_X8_add N (x + 1) v g = some (0, g) := by
        unfold f_X8_add
        rw [p_rdI hL.s1, hXT.2.2.2.1, Option.bind_some, c_4, nI_add, c_80, if_neg (nI_ge (by omega) (by omega))]
      unfold Cc f_X11_sign f_X11_sign_22
      refine w_rdR hL.s0 hL.r0_0 (w_vs hL.s1 (w_eq ha ?_))
      rw [if_pos rfl, zW_some]
      exact ⟨rfl, zX.rfl, hC⟩
    · unfold Rc f_X12_sign
      refine r_start hR hA (fun g1 J0 hR1 _ => ?_)
      have hRT : RT g1 m l := by rw [hl]; exact hR1.1.2.2.2.1
      refine w_rdI hR1.1.1.s0 hRT.1 ?_
      rw [c_4, nI_add, c_80, if_neg (nI_ge (by omega) (by omega)), zW_some]
      exact ⟨rfl, J0.toX (fun a j z => scm_in z) (by omega), hR1⟩)
end SG4
