/-! drop, the class -/
section DC
variable {N x m c : Nat} {g g' : ZS} {A : ZA}
theorem e_min {a b : Nat} (ha : a < 2 ^ 31) (hb : b < 2 ^ 31) : f_J9_min_7cf53 (nI a) (nI b) = some (nI (min a b)) := by
  unfold f_J9_min_7cf53 f_J9_min_7cf53_10
  by_cases e : b < a
  · rw [if_pos (nI_lt e ha), Nat.min_eq_right (by omega)]
  · rw [if_neg (nI_nlt (by omega) hb), Nat.min_eq_left (by omega)]
theorem e_cb {w T : Nat} (hN : 10000 ≤ N) (hC : CJ x g A) (hA : AI A c) (hw : w < 8) (hT : T < 256) : f_X7_costOfBehind N (x + 506) (nI w) (nI T) g = some (nI (cb (aP A) w T (aP A).length)) := by
  obtain ⟨p12, hP⟩ := hA.2.2.2.2.2.2.2.2.1
  have hL := hC.1
  have hCL := hC.2.2.2.2.2.2.2.2.1
  refine zW_val ?_
  unfold f_X7_costOfBehind
  refine zW_for (fun i s => s = (nI (cb (aP A) w T i), nI i)) (aP A).length (fun i s hi hs => ?_) (fun s hs => ?_) (by omega) (Nat.zero_le _) rfl
  · subst hs
    obtain ⟨k1, k2⟩ := hCL.2 i hi
    obtain ⟨b1, b2, b3⟩ := hP i hi
    show zW (f_X7_costOfBehind_5 N (x + 506) (nI w) (nI T) (nI (cb (aP A) w T i)) (nI i) g) _
    unfold f_X7_costOfBehind_5 f_X7_costOfBehind_50
    refine w_rdI hL.s506 hCL.1 ?_
    rw [if_neg (nI_ge hi (by omega))]
    refine w_rdR hL.s506 hL.r506_0 ?_
    have hs : cb (aP A) w T (i + 1) = cb (aP A) w T i + (if ((aP A).getD i e0).1 = w ∧ T / 2 ^ ((aP A).getD i e0).2 % 2 = 1 then 4096 + 2 ^ i else 0) := rfl
    rw [a20_12 hL.s507 (by omega), k1, Option.bind_some]
    by_cases e : ((aP A).getD i e0).1 = w
    · rw [if_pos (by rw [e])]
      refine w_rdR hL.s506 hL.r506_1 ?_
      rw [a20_12 hL.s508 (by omega), k2, Option.bind_some, bit_e (by omega) (by omega)]
      by_cases e2 : T / 2 ^ ((aP A).getD i e0).2 % 2 = 1
      · rw [if_neg (by rw [e2]; decide), c_1, c4096 i (by omega), zW_some, zI_inl, nI_add, nI_add, hs, if_pos ⟨e, e2⟩]
      · rw [if_pos (by rw [show T / 2 ^ ((aP A).getD i e0).2 % 2 = 0 by omega]; rfl), c_1, zW_some, zI_inl, nI_add, hs, if_neg (fun h => e2 h.2)]; rfl
    · rw [if_neg (fun h => e ((nI_eq (by omega) (by omega)).mp h)), c_1, zW_some, zI_inl, nI_add, hs, if_neg (fun h => e h.1)]; rfl
  · subst hs
    show zW (f_X7_costOfBehind_5 N (x + 506) (nI w) (nI T) (nI (cb (aP A) w T (aP A).length)) (nI (aP A).length) g) _
    unfold f_X7_costOfBehind_5
    refine w_rdI hL.s506 hCL.1 ?_
    rw [if_pos (nI_le (Nat.le_refl _) (by omega)), Option.map_some, zW_some, zI_inr]
theorem c_least (hN : 10000 ≤ N) (hC : CJ x g A) (hA : AI A c) : zW (f_X7_leastCost N (x + 506) g) (fun o => (∃ v, o.1 = nI v ∧ OKc (aP A) 255 v) ∧ zJ (fun a _ => a = x + 511) g o.2) := by
  obtain ⟨p12, hP⟩ := hA.2.2.2.2.2.2.2.2.1
  have hL := hC.1
  unfold f_X7_leastCost
  refine w_rdR hL.s506 hL.r506_4 ?_
  rw [c_0, w20_256 hL.s511 (by omega), Option.bind_some, c_1]
  refine zW_forI (fun S g' => 1 ≤ S ∧ zJ (fun a _ => a = x + 511) g g' ∧ ∃ t : Nat → Nat, ∀ T, T < S → zgi g' (x + 511) T = nI (t T) ∧ OKc (aP A) T (t T)) 256 (fun S g2 hS hI => ?_) (fun g2 hI => ?_) (by omega) (show 1 ≤ 256 by omega) ⟨Nat.le_refl _, zJ.setI rfl, fun _ => 0, fun T hT => by
    rw [show T = 0 by omega]
    exact ⟨by rw [gi_sI, if_pos ⟨rfl, rfl⟩], OKc.zero⟩⟩
  · obtain ⟨h1, J2, t, ht⟩ := hI
    have C2 := hC.keep hA J2 (fun a j z => by omega)
    have hL2 := C2.1
    show zW (f_X7_leastCost_9 N (x + 506) (nI S) g2) _
    unfold f_X7_leastCost_9
    rw [c_256, if_neg (nI_ge hS (by omega))]
    have hlt : ∀ w, w < 8 → S / 2 ^ w % 2 = 1 → S - 2 ^ w < S := fun w hw hb => by
      have := (cl_bit S hS w hw hb).1
      have := Nat.two_pow_pos w
      omega
    have hf : ∀ w, w < 8 → S / 2 ^ w % 2 = 1 → t (S - 2 ^ w) + cb (aP A) w (S - 2 ^ w) (aP A).length ≤ 147456 := fun w hw hb => by
      have := (ht _ (hlt w hw hb)).2.lt p12
      have := cb_lt (P := aP A) (w := w) (T := S - 2 ^ w) p12
      omega
    refine zW_for (fun w s => ∃ v, s = (nI v, nI w) ∧ v ≤ 1073741824 ∧ (∀ u, u < w → S / 2 ^ u % 2 = 1 → v ≤ t (S - 2 ^ u) + cb (aP A) u (S - 2 ^ u) (aP A).length) ∧ (v = 1073741824 ∨ ∃ u, u < w ∧ S / 2 ^ u % 2 = 1 ∧ v = t (S - 2 ^ u) + cb (aP A) u (S - 2 ^ u) (aP A).length)) 8 (fun w s hw hs => ?_) (fun s hs => ?_) (by omega) (Nat.zero_le _) ⟨1073741824, rfl, by omega, fun u hu => absurd hu (Nat.not_lt_zero u), Or.inl rfl⟩
    · obtain ⟨v, rfl, hv, hle, hex⟩ := hs
      show zW (f_X7_leastCost_21 N (x + 506) (nI S) (nI v) (nI w) g2) _
      unfold f_X7_leastCost_21 f_X7_leastCost_64
      rw [c_8, if_neg (nI_ge hw (by omega)), bit_e (by omega) (by omega)]
      by_cases e : S / 2 ^ w % 2 = 1
      · rw [if_neg (by rw [e]; decide)]
        refine w_rdR hL2.s506 hL2.r506_4 ?_
        have hl := hlt w hw e
        obtain ⟨t1, t2⟩ := ht _ hl
        have hfw := hf w hw e
        rw [show nI S &&& (((1 : Int32) <<< (nI w &&& 31)) ^^^ (-1 : Int32)) = nI (S - 2 ^ w) from (cl_bit S hS w hw e).2, a20_256 hL2.s511 (by omega), t1, Option.bind_some]
        refine w_vs hL2.s506 (w_eq (e_cb hN C2 hA hw (by omega)) ?_)
        rw [nI_add, e_min (by omega) (by omega), Option.bind_some, zW_some, zI_inl, c_1, nI_add]
        refine ⟨_, rfl, Nat.le_trans (Nat.min_le_left _ _) hv, fun u hu hb => ?_, ?_⟩
        · by_cases eu : u = w
          · subst eu; exact Nat.min_le_right _ _
          · exact Nat.le_trans (Nat.min_le_left _ _) (hle u (by omega) hb)
        · by_cases em : v ≤ t (S - 2 ^ w) + cb (aP A) w (S - 2 ^ w) (aP A).length
          · rw [Nat.min_eq_left em]
            rcases hex with h | ⟨u, h1, h2⟩
            · exact Or.inl h
            · exact Or.inr ⟨u, by omega, h2⟩
          · rw [Nat.min_eq_right (by omega)]
            exact Or.inr ⟨w, by omega, e, rfl⟩
      · rw [if_pos (by rw [show S / 2 ^ w % 2 = 0 by omega]; rfl), c_1, zW_some, zI_inl, nI_add]
        refine ⟨v, rfl, hv, fun u hu hb => ?_, ?_⟩
        · by_cases eu : u = w
          · subst eu; exact absurd hb e
          · exact hle u (by omega) hb
        · rcases hex with h | ⟨u, h1, h2⟩
          · exact Or.inl h
          · exact Or.inr ⟨u, by omega, h2⟩
    · obtain ⟨v, rfl, hv, hle, hex⟩ := hs
      show zW (f_X7_leastCost_21 N (x + 506) (nI S) (nI v) (nI 8) g2) _
      unfold f_X7_leastCost_21
      rw [c_8, if_pos (nI_le (Nat.le_refl _) (by omega)), zW_map]
      refine w_rdR hL2.s506 hL2.r506_4 ?_
      rw [w20_256 hL2.s511 (by omega), Option.bind_some, zW_some, zI_inr, zI_inl, c_1, nI_add]
      obtain ⟨u0, hu0, hb0⟩ := bit_ex 8 (show S < 2 ^ 8 from hS) (by omega)
      have hv0 := hle u0 hu0 hb0
      have hf0 := hf u0 hu0 hb0
      have hexx : ∃ w, w < 8 ∧ S / 2 ^ w % 2 = 1 ∧ v = t (S - 2 ^ w) + cb (aP A) w (S - 2 ^ w) (aP A).length := by
        rcases hex with h | h
        · omega
        · exact h
      have hok : OKc (aP A) S v := OKc.next (t := fun w => t (S - 2 ^ w)) hP hS (by omega) (fun w hw hb => (ht _ (hlt w hw hb)).2) hle hexx
      refine ⟨rfl, by omega, J2.setI' rfl, fun T => if T = S then v else t T, fun T hT => ?_⟩
      rw [gi_sI]
      dsimp only
      by_cases e : T = S
      · rw [if_pos ⟨rfl, e⟩, if_pos e, e]; exact ⟨rfl, hok⟩
      · rw [if_neg (fun h => e h.2), if_neg e]; exact ht T (by omega)
  · obtain ⟨h1, J2, t, ht⟩ := hI
    have C2 := hC.keep hA J2 (fun a j z => by omega)
    have hL2 := C2.1
    show zW (f_X7_leastCost_9 N (x + 506) (nI 256) g2) _
    unfold f_X7_leastCost_9
    rw [c_256, if_pos (nI_le (Nat.le_refl _) (by omega)), zW_map]
    refine w_rdR hL2.s506 hL2.r506_4 ?_
    rw [c_255, a20_256 hL2.s511 (by omega), Option.bind_some, zW_some, zI_inr]
    exact ⟨⟨t 255, (ht 255 (by omega)).1, (ht 255 (by omega)).2⟩, J2⟩
end DC
