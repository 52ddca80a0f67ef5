/-! ===== hear, gain ===== -/
def pc (k : Nat) : Nat := k % 2 + k / 2 % 2 + k / 4 % 2 + k / 8 % 2 + k / 16 % 2 + k / 32 % 2 + k / 64 % 2 + k / 128 % 2 + k / 256 % 2 + k / 512 % 2 + k / 1024 % 2 + k / 2048 % 2
theorem e_bc64 {k : Nat} (h : k < 64) : f_J6_bitCount_0f7a4 (nI k) = some (nI (pc k)) := co_dec (N := 64) (P := fun k => f_J6_bitCount_0f7a4 (nI k) = some (nI (pc k))) (by decide +kernel) h
theorem pc64 {k : Nat} (h : k < 64) : pc k < 7 := co_dec (N := 64) (P := fun k => pc k < 7) (by decide +kernel) h
section K8
variable {N : Nat}
def woA (S : Nat → Int32) (k : Nat) (n : Nat) : Int32 := zfold (fun p acc => if k / 2 ^ p % 2 = 1 then acc ||| S p else acc) n (nI 0)
def hgood (S : Nat → Int32) (t : Int32) (n k : Nat) : Bool := decide (t &&& (woA S k n ^^^ (-1 : Int32)) = 0)
def hrF (S : Nat → Int32) (t : Int32) (n k : Nat) (s : Nat × Nat) : Nat × Nat := if pc k < s.2 ∧ hgood S t n k = true then (k + 1, pc k) else s
def hrS (S : Nat → Int32) (t : Int32) (n k : Nat) : Nat × Nat := zfold (hrF S t n) k (0, 7)
theorem hrS_s {S : Nat → Int32} {t : Int32} {n k : Nat} : hrS S t n (k + 1) = hrF S t n k (hrS S t n k) := rfl
theorem hrS_inv {S : Nat → Int32} {t : Int32} {n : Nat} : ∀ k, k ≤ 64 → (hrS S t n k).1 ≤ k ∧ ((hrS S t n k).1 = 0 → (hrS S t n k).2 = 7) ∧ ((hrS S t n k).1 ≠ 0 → (hrS S t n k).2 = pc ((hrS S t n k).1 - 1)) ∧ (hrS S t n k).2 ≤ 7
  | 0, _ => ⟨Nat.le_refl _, fun _ => rfl, fun h => absurd rfl h, Nat.le_refl _⟩
  | k + 1, hk => by
    obtain ⟨h1, h2, h3, h4⟩ := hrS_inv (S := S) (t := t) (n := n) k (by omega)
    have := pc64 (show k < 64 by omega)
    rw [hrS_s]
    unfold hrF
    split
    · exact ⟨Nat.le_refl _, fun h => absurd h (by show k + 1 ≠ 0; omega), fun _ => rfl, by show pc k ≤ 7; omega⟩
    · exact ⟨by omega, h2, h3, h4⟩
theorem e_has {k p : Nat} (hk : k < 2 ^ 31) (hp : p < 31) : f_X12_has (nI k) (nI p) = some (bI (decide (k / 2 ^ p % 2 = 1))) := by
  unfold f_X12_has f_X12_has_14
  rw [bit_e hk hp]
  rcases bit01 (k := k) (p := p) with h | h
  · rw [h]; rfl
  · rw [h]; rfl
theorem e_wordsOf {x c k : Nat} {g : ZS} {A : ZA} {S : Nat → Int32} (hN : 10000 ≤ N) (hC : CJ x g A) (hA : AI A c) (hk : k < 64) (hS : ∀ p, p < an A → zgi g (x + 515) p = S p) : f_X11_wordsOf N x (nI k) g = some (woA S k (an A)) := by
  have n6 := hA.1.1
  have hL := hC.1
  have h4 := hC.2.2.2.2.2.1.1.1
  unfold f_X11_wordsOf
  rw [c_0]
  refine loopA (fun p acc => if k / 2 ^ p % 2 = 1 then acc ||| S p else acc) (an A) id (fun _ _ => True) trivial (fun i y hi _ => ⟨?_, trivial⟩) (fun y _ => ?_) (by omega)
  · show f_X11_wordsOf_4 N x (nI k) y (nI i) g = _
    unfold f_X11_wordsOf_4 f_X11_wordsOf_32
    rw [p_rdR hL.s0, hL.r0_6, Option.bind_some, p_rdI hL.SL23.f.1, Option.bind_some, h4, if_neg (nI_ge hi (by omega)), bit_e (by omega) (by omega)]
    rcases bit01 (k := k) (p := i) with h | h
    · rw [h, if_pos (show nI 0 = 0 from rfl), c_1, nI_add, if_neg (by omega)]
    · rw [h, if_neg (show ¬ nI 1 = 0 by decide), p_rdR hL.s0, hL.r0_16, Option.bind_some, a20_6 hL.s515 (by omega), Option.bind_some, hS i hi, c_1, nI_add, if_pos rfl]
  · show f_X11_wordsOf_4 N x (nI k) y (nI (an A)) g = _
    unfold f_X11_wordsOf_4
    rw [p_rdR hL.s0, hL.r0_6, Option.bind_some, p_rdI hL.SL23.f.1, Option.bind_some, h4, if_pos (nI_le (Nat.le_refl _) (by omega))]
    rfl
theorem two_n {n : Nat} (h : n ≤ 6) : 2 ^ n ≤ 64 := by
  have : 2 ^ n ≤ 2 ^ 6 := Nat.pow_le_pow_right (by omega) h
  omega
theorem k_hear (hN : 10000 ≤ N) (v u : Int32) : Call (fun x g => f_X11_hear N x v u g) (fun m g => f_X12_hear N m v u g) := call_q (fun x m c g A hC hA hc => by
  have n6 := hA.1.1
  have h2n := two_n n6
  by_cases hvu : rb v 0 (255 + 1) = true ∧ rb u 1 (8 + 1) = true
  · obtain ⟨hv, hu⟩ := hvu
    obtain ⟨kk, hk1, hk2, rfl⟩ := rb_t hu (by omega)
    obtain ⟨S, hSd⟩ : ∃ S : Nat → Int32, S = fun p => bitsN (sayA A (aB A p) (ame A p)) (min kk (sayA A (aB A p) (ame A p)).length) := ⟨_, rfl⟩
    have hSe : ∀ p, bitsN (sayA A (aB A p) (ame A p)) (min kk (sayA A (aB A p) (ame A p)).length) = S p := fun p => by rw [hSd]
    obtain ⟨F, hF⟩ : ∃ F, F = hrS S v (an A) (2 ^ an A) := ⟨_, rfl⟩
    have hFi := hrS_inv (S := S) (t := v) (n := an A) (2 ^ an A) h2n
    rw [← hF] at hFi
    refine ⟨if F.1 = 0 then -nI 2 else nI F.2, if F.1 = 0 then aR A else [wL (F.1 - 1)], by split; exact hA.2.2.2.2.1; simp, ?_, fun g' hR => ?_⟩
    · unfold QC f_X11_hear
      rw [c_0, c_255, rngA (by omega) (by omega), if_pos hv, c_1, c_8, rngB (by omega) (by omega), if_pos hu]
      refine w_vs hC.1.1.s0 ((c_gather hN hC.1 hA (by omega)).bind (fun g1 h1 => ?_))
      obtain ⟨J1, C1, e1⟩ := h1
      have e1' : ∀ p, p < an A → zgi g1 (x + 515) p = S p := fun p hp => by rw [e1 p hp]; exact hSe p
      refine zW_for (fun i s => s.1 = (if (hrS S v (an A) i).1 = 0 then -nI 1 else nI ((hrS S v (an A) i).1 - 1)) ∧ s.2.1 = nI (hrS S v (an A) i).2 ∧ s.2.2 = nI i) (2 ^ an A) (fun i s hi hs => ?_) (fun s hs => ?_) (by omega) (Nat.zero_le _) ⟨rfl, rfl, rfl⟩
      · obtain ⟨y1, y2, y3⟩ := s
        obtain ⟨h1, h2, h3⟩ := hs
        dsimp only at h1 h2 h3
        subst h2 h3
        obtain ⟨i1, i2, i3, i4⟩ := hrS_inv (S := S) (t := v) (n := an A) i (by omega)
        have hp7 := pc64 (show i < 64 by omega)
        show zW (f_X11_hear_38 N x v y1 (nI (hrS S v (an A) i).2) (nI i) g1) _
        unfold f_X11_hear_38 f_X11_hear_86
        refine c_size C1 ?_
        rw [shl_e _ (by omega), if_neg (nI_ge hi (by omega)), e_bc64 (by omega), Option.bind_some]
        by_cases e : pc i < (hrS S v (an A) i).2
        · rw [if_neg (nI_ge e (by omega))]
          refine w_vs C1.1.s0 (w_eq (e_wordsOf hN C1 hA (by omega) e1') ?_)
          by_cases hg : v &&& (woA S i (an A) ^^^ (-1 : Int32)) = 0
          · rw [if_pos hg, zW_some, zI_inl, c_1, nI_add]
            have hs : hrS S v (an A) (i + 1) = (i + 1, pc i) := by rw [hrS_s]; unfold hrF; rw [if_pos ⟨e, decide_eq_true hg⟩]
            rw [hs]
            exact ⟨by show nI i = _; rw [if_neg (by omega)]; rfl, rfl, rfl⟩
          · rw [if_neg hg, zW_some, zI_inl, c_1, nI_add]
            have hs : hrS S v (an A) (i + 1) = hrS S v (an A) i := by rw [hrS_s]; unfold hrF; rw [if_neg (fun z => hg (of_decide_eq_true z.2))]
            rw [hs]
            exact ⟨h1, rfl, rfl⟩
        · rw [if_pos (nI_le (by omega) (by omega)), zW_some, zI_inl, c_1, nI_add]
          have hs : hrS S v (an A) (i + 1) = hrS S v (an A) i := by rw [hrS_s]; unfold hrF; rw [if_neg (fun z => e z.1)]
          rw [hs]
          exact ⟨h1, rfl, rfl⟩
      · obtain ⟨y1, y2, y3⟩ := s
        obtain ⟨h1, h2, h3⟩ := hs
        dsimp only at h1 h2 h3
        subst h2 h3
        rw [← hF] at h1
        show zW (f_X11_hear_38 N x v y1 (nI (hrS S v (an A) (2 ^ an A)).2) (nI (2 ^ an A)) g1) _
        unfold f_X11_hear_38
        refine c_size C1 ?_
        rw [shl_e _ (by omega), if_pos (nI_le (Nat.le_refl _) (by omega)), zW_map, ← hF]
        by_cases e : F.1 = 0
        · rw [if_pos e] at h1
          subst h1
          rw [if_pos (show -nI 1 = -1 from rfl), zW_some, if_pos e, if_pos e]
          exact ⟨rfl, J1.mono (fun a j z => by omega), hC.2.stay J1 (fun a j z => by omega)⟩
        · rw [if_neg e] at h1
          subst h1
          rw [if_neg (fun h => by rw [show (-1 : Int32) = -nI 1 from rfl, ng_eq (by omega) (by omega)] at h; omega), if_neg e, if_neg e]
          refine c_only C1 hA (fun g3 J3 X3 C3 => ?_)
          rw [zW_some]
          exact ⟨rfl, (J1.mono (fun a j z => by omega)).trans (J3.mono (fun a j z => by omega)), X3⟩
    · unfold QF f_X12_hear
      refine r_start hR hA (fun g1 J0 hR1 _ => ?_)
      rw [c_255, e_inz (by omega), Option.bind_some, if_neg (bI_ne hv), c_1, c_8, e_in (by omega) (by omega), Option.bind_some, if_neg (bI_ne hu), c_0]
      refine zW_forI (fun i g2 => zM m (fun a j => SY m (m + 12) a j ∨ a = m + 19) g1 g2 ∧ RJ m g2 A ∧ ∀ p, p < i → zgi g2 (m + 19) p = S p) (an A) (fun i g2 hi hI => ?_) (fun g2 hI => ?_) (by omega) (Nat.zero_le _) ⟨zM.rfl, hR1.1, fun p hp => by omega⟩
      · obtain ⟨J2, R2, e2⟩ := hI
        show zW (f_X12_hear_30 N m v (nI kk) (nI i) g2) _
        unfold f_X12_hear_30
        refine w_rdI R2.1.s0 R2.2.2.2.2.2.2.1.1 ?_
        rw [if_neg (nI_ge hi (by omega))]
        refine w_rdR R2.1.s0 R2.1.r30 (w_vs R2.1.s0 ?_)
        refine (r_saidBits hN R2 hA hi (by omega)).bind (fun o ho => ?_)
        obtain ⟨o1, J3, R3⟩ := ho
        rw [hSe] at o1
        rw [w20_6 R3.1.s19 (by omega), Option.bind_some, zW_some, zI_inl, c_1, nI_add, o1]
        have J4 : zJ (fun a j => a = m + 19) o.2 (zsetI o.2 (m + 19) i (S i)) := zJ.setI rfl
        refine ⟨rfl, (J2.trans (J3.mono (fun a j z => Or.inl z))).trans ((J4.toM (m := m)).mono (fun a j z => Or.inr z)), R3.keep hA J4.toM (fun a j z => by omega), fun p hp => ?_⟩
        rw [gi_sI]
        by_cases e : p = i
        · subst e; rw [if_pos ⟨rfl, rfl⟩]
        · rw [if_neg (by omega), J3.gi (by omega)]; exact e2 p (by omega)
      · obtain ⟨J2, R2, e2⟩ := hI
        show zW (f_X12_hear_30 N m v (nI kk) (nI (an A)) g2) _
        unfold f_X12_hear_30
        refine w_rdI R2.1.s0 R2.2.2.2.2.2.2.1.1 ?_
        rw [if_pos (nI_le (Nat.le_refl _) (by omega)), zW_map]
        refine zW_for (fun i s => s.1 = (if (hrS S v (an A) i).1 = 0 then -nI 1 else nI ((hrS S v (an A) i).1 - 1)) ∧ s.2 = nI i) (2 ^ an A) (fun i s hi hs => ?_) (fun s hs => ?_) (by omega) (Nat.zero_le _) ⟨rfl, rfl⟩
        · obtain ⟨y1, y3⟩ := s
          obtain ⟨h1, h3⟩ := hs
          dsimp only at h1 h3
          subst h3
          obtain ⟨i1, i2, i3, i4⟩ := hrS_inv (S := S) (t := v) (n := an A) i (by omega)
          have hp7 := pc64 (show i < 64 by omega)
          show zW (f_X12_hear_61 N m v y1 (nI i) g2) _
          unfold f_X12_hear_61
          refine w_rdI R2.1.s0 R2.2.2.2.2.2.2.1.1 ?_
          rw [shl_e _ (by omega), if_neg (nI_ge hi (by omega)), c_0]
          refine zW_for (fun p s => s.1 = woA S i p ∧ s.2 = nI p) (an A) (fun p s hp hs => ?_) (fun s hs => ?_) (by omega) (Nat.zero_le _) ⟨rfl, rfl⟩
          · obtain ⟨z1, z2⟩ := s
            obtain ⟨k1, k2⟩ := hs
            dsimp only at k1 k2
            subst k1 k2
            show zW (f_X12_hear_78 N m v y1 (nI i) (woA S i p) (nI p) g2) _
            unfold f_X12_hear_78 f_X12_hear_110
            refine w_rdI R2.1.s0 R2.2.2.2.2.2.2.1.1 ?_
            rw [if_neg (nI_ge hp (by omega)), e_has (by omega) (by omega), Option.bind_some]
            by_cases hb : i / 2 ^ p % 2 = 1
            · rw [decide_eq_true hb, if_neg (bI_ne rfl)]
              refine w_rdR R2.1.s0 R2.1.r30 ?_
              rw [a20_6 R2.1.s19 (by omega), e2 p hp, Option.bind_some, zW_some, zI_inl, c_1, nI_add]
              exact ⟨by show _ = zfold _ (p + 1) _; unfold zfold; rw [if_pos hb]; rfl, rfl⟩
            · rw [decide_eq_false hb, if_pos (bI_eq rfl), zW_some, zI_inl, c_1, nI_add]
              exact ⟨by show _ = zfold _ (p + 1) _; unfold zfold; rw [if_neg hb]; exact or_z, rfl⟩
          · obtain ⟨z1, z2⟩ := s
            obtain ⟨k1, k2⟩ := hs
            dsimp only at k1 k2
            subst k1 k2
            show zW (f_X12_hear_78 N m v y1 (nI i) (woA S i (an A)) (nI (an A)) g2) _
            unfold f_X12_hear_78 f_X12_hear_145 f_X12_hear_148
            refine w_rdI R2.1.s0 R2.2.2.2.2.2.2.1.1 ?_
            rw [if_pos (nI_le (Nat.le_refl _) (by omega)), zW_map]
            have yes : pc i < (hrS S v (an A) i).2 ∧ hgood S v (an A) i = true → zW (some (Sum.inl (nI i, nI i + 1)) : Option ((Int32 × Int32) ⊕ (Int32 × ZS))) (fun r => zI (fun s => s.1 = (if (hrS S v (an A) (i + 1)).1 = 0 then -nI 1 else nI ((hrS S v (an A) (i + 1)).1 - 1)) ∧ s.2 = nI (i + 1)) (fun o => o.1 = (if F.1 = 0 then -nI 2 else nI F.2) ∧ zM m (ScM m) g' o.2 ∧ RW o.2 m (if F.1 = 0 then aR A else [wL (F.1 - 1)])) r) := by
              intro hy
              rw [zW_some, zI_inl, c_1, nI_add]
              have hs : hrS S v (an A) (i + 1) = (i + 1, pc i) := by rw [hrS_s]; unfold hrF; rw [if_pos hy]
              rw [hs]
              exact ⟨by show nI i = _; rw [if_neg (by omega)]; rfl, rfl⟩
            have no : ¬ (pc i < (hrS S v (an A) i).2 ∧ hgood S v (an A) i = true) → zW (some (Sum.inl (y1, nI i + 1)) : Option ((Int32 × Int32) ⊕ (Int32 × ZS))) (fun r => zI (fun s => s.1 = (if (hrS S v (an A) (i + 1)).1 = 0 then -nI 1 else nI ((hrS S v (an A) (i + 1)).1 - 1)) ∧ s.2 = nI (i + 1)) (fun o => o.1 = (if F.1 = 0 then -nI 2 else nI F.2) ∧ zM m (ScM m) g' o.2 ∧ RW o.2 m (if F.1 = 0 then aR A else [wL (F.1 - 1)])) r) := by
              intro hy
              rw [zW_some, zI_inl, c_1, nI_add]
              have hs : hrS S v (an A) (i + 1) = hrS S v (an A) i := by rw [hrS_s]; unfold hrF; rw [if_neg hy]
              rw [hs]
              exact ⟨h1, rfl⟩
            by_cases hg : v &&& (woA S i (an A) ^^^ (-1 : Int32)) = 0
            · rw [if_pos hg]
              have hgd : hgood S v (an A) i = true := decide_eq_true hg
              by_cases hb : (hrS S v (an A) i).1 = 0
              · rw [if_pos hb] at h1
                rw [h1, if_pos (show -nI 1 = -1 from rfl)]
                exact yes ⟨by rw [i2 hb]; omega, hgd⟩
              · rw [if_neg hb] at h1
                have hne : ¬ y1 = -1 := by rw [h1]; exact fun h => by rw [show (-1 : Int32) = -nI 1 from rfl, ng_eq (by omega) (by omega)] at h; omega
                rw [if_neg hne, e_bc64 (by omega), Option.bind_some, h1, e_bc64 (by omega), Option.bind_some, ← i3 hb]
                by_cases e : pc i < (hrS S v (an A) i).2
                · rw [if_neg (nI_ge e (by omega))]; exact yes ⟨e, hgd⟩
                · rw [if_pos (nI_le (by omega) (by omega)), ← h1]; exact no (fun z => e z.1)
            · rw [if_neg hg]; exact no (fun z => hg (of_decide_eq_true z.2))
        · obtain ⟨y1, y3⟩ := s
          obtain ⟨h1, h3⟩ := hs
          dsimp only at h1 h3
          subst h3
          rw [← hF] at h1
          show zW (f_X12_hear_61 N m v y1 (nI (2 ^ an A)) g2) _
          unfold f_X12_hear_61
          refine w_rdI R2.1.s0 R2.2.2.2.2.2.2.1.1 ?_
          rw [shl_e _ (by omega), if_pos (nI_le (Nat.le_refl _) (by omega)), zW_map]
          by_cases e : F.1 = 0
          · rw [if_pos e] at h1
            subst h1
            rw [if_pos (show -nI 1 = -1 from rfl), zW_some, if_pos e, if_pos e]
            exact ⟨rfl, J0.trans (J2.mono (fun a j z => by omega)), hR1.2.keepM J2 (by omega) (fun j => by omega)⟩
          · rw [if_neg e] at h1
            subst h1
            rw [if_neg (fun h => by rw [show (-1 : Int32) = -nI 1 from rfl, ng_eq (by omega) (by omega)] at h; omega), if_neg e, if_neg e]
            refine r_only R2 hA (fun g3 J3 X3 C3 => ?_)
            rw [e_bc64 (by omega), Option.bind_some, zW_some, hFi.2.2.1 e]
            exact ⟨rfl, (J0.trans (J2.mono (fun a j z => by omega))).trans ((J3.toM (m := m)).mono (fun a j z => by omega)), X3⟩
  · refine ⟨-1, aR A, hA.2.2.2.2.1, ?_, fun g' hR => ?_⟩
    · unfold QC f_X11_hear f_X11_hear_22
      have fin : zW (some ((-1 : Int32), g)) (fun o => o.1 = -1 ∧ zJ (Scr x) g o.2 ∧ XR o.2 (x + 3) (x + 4) (aR A)) := zW_some.mpr ⟨rfl, zJ.rfl, hC.2⟩
      rw [c_0, c_255, rngA (by omega) (by omega)]
      cases hv : rb v 0 (255 + 1) with
      | false => rw [if_neg (by decide)]; exact fin
      | true =>
        rw [if_pos rfl]
        show zW (if u < (1 : Int32) then _ else if u ≤ (8 : Int32) then _ else _) _
        rw [c_1, c_8, rngB (by omega) (by omega), if_neg (fun h => hvu ⟨hv, h⟩)]; exact fin
    · unfold QF f_X12_hear f_X12_hear_26
      refine r_start hR hA (fun g1 J0 hR1 _ => ?_)
      have fin : zW (some ((-1 : Int32), g1)) (fun o => o.1 = -1 ∧ zM m (ScM m) g' o.2 ∧ RW o.2 m (aR A)) := zW_some.mpr ⟨rfl, J0, hR1.2⟩
      rw [c_255, e_inz (by omega), Option.bind_some]
      cases hv : rb v 0 (255 + 1) with
      | false => rw [if_pos (bI_eq rfl)]; exact fin
      | true =>
        have h0 : f_X12_in u (1 : Int32) (8 : Int32) = some (bI (rb u 1 (8 + 1))) := e_in (lo := 1) (hi := 8) (by omega) (by omega)
        rw [if_neg (bI_ne rfl), h0, Option.bind_some, if_pos (bI_eq (Bool.eq_false_iff.mpr (fun h => hvu ⟨hv, h⟩)))]; exact fin)
end K8
