/-! ===== blend, source ===== -/
def hd (H : Nat → List Nat) (a i w : Nat) : Bool := decide (i < (H a).length ∧ (H a).getD i 0 = w)
def blF (H : Nat → List Nat) (a b w k M : Nat) (i acc : Nat) : Nat := if M / 2 ^ i % 2 = 1 then (acc ||| (if hd H a i w then 2 ^ (i + 1) else 0)) ||| (if hd H b (k - i) w then 2 ^ i else 0) else acc
def blM (H : Nat → List Nat) (a b : Nat) (t : List Nat) : Nat → Nat
  | 0 => 1
  | k + 1 => zfold (blF H a b (t.getD k 0) k (blM H a b t k)) (k + 1) 0
theorem p2_le {i k : Nat} (h : i ≤ k) : 2 ^ i ≤ 2 ^ k := Nat.pow_le_pow_right (by omega) h
theorem blF_lt {H : Nat → List Nat} {a b w k M i acc e : Nat} (hi : i + 1 < e) (h : acc < 2 ^ e) : blF H a b w k M i acc < 2 ^ e := by
  have h1 : 2 ^ (i + 1) < 2 ^ e := Nat.pow_lt_pow_right (by omega) hi
  have h2 : 2 ^ i < 2 ^ e := Nat.pow_lt_pow_right (by omega) (by omega)
  have h0 : 0 < 2 ^ e := Nat.pow_pos (by omega)
  unfold blF
  split
  · refine Nat.or_lt_two_pow (Nat.or_lt_two_pow h ?_) ?_
    · split <;> assumption
    · split <;> assumption
  · exact h
theorem blZ_lt {H : Nat → List Nat} {a b w k M e : Nat} : ∀ n, n + 1 ≤ e → zfold (blF H a b w k M) n 0 < 2 ^ e
  | 0, _ => Nat.pow_pos (by omega)
  | n + 1, h => blF_lt (by omega) (blZ_lt n (by omega))
theorem blM_lt {H : Nat → List Nat} {a b : Nat} {t : List Nat} : ∀ n, blM H a b t n < 2 ^ (n + 1)
  | 0 => by show 1 < 2 ^ 1; omega
  | n + 1 => blZ_lt (n + 1) (by omega)
theorem nI_or {a b : Nat} : nI a ||| nI b = nI (a ||| b) := by
  refine Int32.toBitVec_inj.mp ?_
  show BitVec.ofNat 32 a ||| BitVec.ofNat 32 b = BitVec.ofNat 32 (a ||| b)
  exact BitVec.ofNat_or.symm
theorem sh32 : ∀ p, p < 32 → ((nI p &&& 31).toBitVec.smod 32).toNat = p := by decide +kernel
theorem bit_e2 {k p : Nat} (hk : k < 2 ^ 31) (hp : p < 32) : (nI k >>> (nI p &&& 31)) &&& (1 : Int32) = nI (k / 2 ^ p % 2) := by
  rw [pk_shrN hk _ p (sh32 p hp)]
  have h2 : k / 2 ^ p < 2 ^ 32 := Nat.lt_of_le_of_lt (Nat.div_le_self _ _) (by omega)
  exact pk_andN h2 1 (by decide)
theorem shl2 : ∀ p, p < 30 → (2 : Int32) <<< (nI p &&& 31) = nI (2 ^ (p + 1)) := by decide +kernel
theorem or_z0 {v : Int32} : v ||| (0 : Int32) = v := Int32.or_zero
def lwP (K i : Nat) : Bool := decide (K / 2 ^ i % 2 = 1)
def lowI (K : Nat) : Int32 := if zleast (lwP K) 32 0 < 32 then nI (zleast (lwP K) 32 0) else -nI 1
theorem e_lowest {N K : Nat} (hN : 10000 ≤ N) (hK : K < 2 ^ 31) : f_X11_lowestOf N (nI K) = some (lowI K) := by
  unfold f_X11_lowestOf lowI
  refine loopL (body := fun s => f_X11_lowestOf_2 N (nI K) s) (lwP K) (fun i => nI i) (-nI 1) 32 (fun i hi => ?_) ?_ (by omega)
  · show f_X11_lowestOf_2 N (nI K) (nI i) = _
    unfold f_X11_lowestOf_2 lwP
    rw [show (32 : Int32) = nI 32 from rfl, if_neg (nI_ge hi (by omega)), bit_e2 hK hi]
    by_cases e : K / 2 ^ i % 2 = 1
    · rw [e, if_neg (show ¬ nI 1 = 0 by decide), decide_eq_true rfl]; rfl
    · rw [show K / 2 ^ i % 2 = 0 by omega, if_pos (show nI 0 = 0 from rfl), decide_eq_false (by decide), c_1, nI_add]; rfl
  · show f_X11_lowestOf_2 N (nI K) (nI 32) = _
    unfold f_X11_lowestOf_2
    rw [show (32 : Int32) = nI 32 from rfl, if_pos (nI_le (Nat.le_refl _) (by omega))]; rfl
theorem low_split {K : Nat} : ∀ i, (∀ j, j < i → ¬ K / 2 ^ j % 2 = 1) → K = 2 ^ i * (K / 2 ^ i)
  | 0, _ => by rw [Nat.pow_zero, Nat.div_one, Nat.one_mul]
  | i + 1, h => by
    have ih := low_split i (fun j hj => h j (by omega))
    have h1 := h i (by omega)
    have h2 : K / 2 ^ (i + 1) = K / 2 ^ i / 2 := by rw [Nat.pow_succ, Nat.div_div_eq_div_mul]
    have h3 : K / 2 ^ i = 2 * (K / 2 ^ (i + 1)) := by rw [h2]; omega
    have h4 : 2 ^ (i + 1) * (K / 2 ^ (i + 1)) = 2 ^ i * (2 * (K / 2 ^ (i + 1))) := by rw [← Nat.mul_assoc, ← Nat.pow_succ]
    rw [h4, ← h3]; exact ih
theorem low_mask {K i : Nat} (hK : K < 2 ^ 31) (h0 : ∀ j, j < i → ¬ K / 2 ^ j % 2 = 1) (h1 : K / 2 ^ i % 2 = 1) (hi : i < 31) : (nI K ^^^ (-1 : Int32)) &&& (nI K - (1 : Int32)) = nI (2 ^ i - 1) := by
  have hs := low_split i h0
  obtain ⟨q, hq⟩ : ∃ q, K / 2 ^ i = 2 * q + 1 := ⟨K / 2 ^ i / 2, by omega⟩
  rw [hq] at hs
  have hp : 0 < 2 ^ i := Nat.pow_pos (by omega)
  have e1 : K = 2 ^ (i + 1) * q + 2 ^ i := by rw [hs, Nat.pow_succ, Nat.mul_add, Nat.mul_one, Nat.mul_assoc]
  have e2 : K - 1 = 2 ^ (i + 1) * q + (2 ^ i - 1) := by omega
  have hb1 : 2 ^ i < 2 ^ (i + 1) := Nat.pow_lt_pow_right (by omega) (by omega)
  rw [c_1, nI_sub (by omega)]
  refine Int32.toBitVec_inj.mp ?_
  show (BitVec.ofNat 32 K ^^^ BitVec.allOnes 32) &&& BitVec.ofNat 32 (K - 1) = BitVec.ofNat 32 (2 ^ i - 1)
  refine BitVec.eq_of_getLsbD_eq (fun j hj => ?_)
  rw [BitVec.getLsbD_and, BitVec.getLsbD_xor, BitVec.getLsbD_allOnes, BitVec.getLsbD_ofNat, BitVec.getLsbD_ofNat, BitVec.getLsbD_ofNat, decide_eq_true hj, Bool.true_and, Bool.true_and, Bool.true_and, e2]
  rw [e1, Nat.testBit_two_pow_mul_add _ hb1, Nat.testBit_two_pow_mul_add _ (by omega), Nat.testBit_two_pow_sub_one]
  by_cases c1 : j < i + 1
  · rw [if_pos c1, if_pos c1, Nat.testBit_two_pow]
    by_cases c2 : j = i
    · subst c2; simp
    · rw [decide_eq_false (fun h => c2 h.symm), decide_eq_true (show j < i by omega)]; rfl
  · rw [if_neg c1, if_neg c1, decide_eq_false (show ¬ j < i by omega)]
    cases q.testBit (j - (i + 1)) <;> rfl
def ntzV (y : Int32) : Option Int32 := if 0 < y then (if y ≤ (65536 : Int32) then f_J6_numberOfTrailingZeros_0f7a4_34 y (1 : Int32) else f_J6_numberOfTrailingZeros_0f7a4_34 ((y.toUInt32 >>> ((16 : Int32).toUInt32 &&& Int32.toUInt32 31)).toInt32) ((1 : Int32) + (16 : Int32))) else some (y &&& (32 : Int32))
theorem ntz_V {v : Int32} : f_J6_numberOfTrailingZeros_0f7a4 v = ntzV ((v ^^^ (-1 : Int32)) &&& (v - (1 : Int32))) := rfl
theorem ntz_t : ∀ i, i < 20 → ntzV (nI (2 ^ i - 1)) = some (nI i) := by decide +kernel
theorem low_0 {K : Nat} (h : K = 0) : lowI K = -nI 1 := by
  unfold lowI
  rw [if_neg]
  intro hl
  have := (zleast_spec (lwP K) 32 0).2.2.2 (by rw [Nat.zero_add]; exact hl)
  have := of_decide_eq_true this
  rw [h, Nat.zero_div] at this
  omega
theorem bit_ex {K : Nat} : ∀ e, K < 2 ^ e → 0 < K → ∃ j, j < e ∧ K / 2 ^ j % 2 = 1
  | 0, h, h0 => by rw [Nat.pow_zero] at h; omega
  | e + 1, h, h0 => by
    by_cases c : K / 2 ^ e % 2 = 1
    · exact ⟨e, by omega, c⟩
    · have hp : 0 < 2 ^ e := Nat.pow_pos (by omega)
      rw [Nat.pow_succ] at h
      have h1 : K / 2 ^ e < 2 := Nat.div_lt_of_lt_mul h
      have h2 : K / 2 ^ e = 0 := by
        revert c h1
        generalize K / 2 ^ e = q
        intro c h1
        omega
      have h3 : K < 2 ^ e := by
        rcases Nat.div_eq_zero_iff.mp h2 with h | h
        · omega
        · exact h
      obtain ⟨j, hj, hb⟩ := bit_ex e h3 h0
      exact ⟨j, by omega, hb⟩
theorem low_p {K e : Nat} (hK : K < 2 ^ e) (he : e ≤ 20) (h0 : 0 < K) : ∃ i, i < e ∧ lowI K = nI i ∧ f_J6_numberOfTrailingZeros_0f7a4 (nI K) = some (nI i) := by
  obtain ⟨j, hj, hb⟩ := bit_ex e hK h0
  obtain ⟨z1, z2, z3, z4⟩ := zleast_spec (lwP K) 32 0
  have hle : zleast (lwP K) 32 0 ≤ j := Nat.le_of_not_lt (fun h => by
    have := z3 j (Nat.zero_le _) h
    unfold lwP at this
    rw [decide_eq_true hb] at this; cases this)
  have hK31 : K < 2 ^ 31 := Nat.lt_of_lt_of_le hK (p2_le (by omega))
  have hb2 := of_decide_eq_true (z4 (by omega))
  refine ⟨zleast (lwP K) 32 0, by omega, ?_, ?_⟩
  · unfold lowI
    rw [if_pos (by omega)]
  · rw [ntz_V, low_mask hK31 (fun j hj => of_decide_eq_false (z3 j (Nat.zero_le _) hj)) hb2 (by omega)]
    exact ntz_t _ (by omega)
section BL1
variable {N : Nat}
theorem e_saidAt {x c a i w : Nat} {g : ZS} {A : ZA} (hC : CJ x g A) (hA : AI A c) (ha : a < 4) (hi : i < 17) (hw : w < 8) : f_X2_isSaidAt (x + 5) (nI a) (nI i) (nI w) g = some (bI (hd (aH A) a i w)) := by
  obtain ⟨u1, u2, u3, u4, u5, u6⟩ := c_XHl hC
  obtain ⟨u7, u8⟩ := u6 a ha
  obtain ⟨y1, y2⟩ := hC.2.2.1 a ha
  obtain ⟨z1, z2, z3⟩ := hA.2.1.2 a ha
  unfold f_X2_isSaidAt f_X2_isSaidAt_26 f_X2_isSaidAt_27 hd
  rw [p_rdR u1, u4, Option.bind_some, a20_4 u5 ha, y1, Option.bind_some]
  by_cases e : (aH A a).length ≤ i
  · rw [if_pos (nI_le e (by omega)), decide_eq_false (fun h => by omega)]; rfl
  · have e1 := z3 i (by omega)
    rw [if_neg (nI_ge (by omega) (by omega)), p_rdR u1, u3, Option.bind_some, a27_4 u2 ha, u7, Option.bind_some, a20_16 u8 (by omega), y2 i (by omega), Option.bind_some]
    by_cases e2 : (aH A a).getD i 0 = w
    · rw [if_pos (by rw [e2]), decide_eq_true ⟨by omega, e2⟩]; rfl
    · rw [if_neg (fun h => e2 ((nI_eq (by omega) (by omega)).mp h)), decide_eq_false (fun h => e2 h.2)]; rfl
theorem e_few {x c a b : Nat} {g : ZS} {A : ZA} {l : List Nat} (hN : 10000 ≤ N) (hC : CJ x g A) (hA : AI A c) (ha : a < 4) (hb : b < 4) (hT : XT g (x + 1) (x + 2) l) (h16 : l.length ≤ 16) (hl : ∀ p, p < l.length → lt8 (l.getD p 0) = true) : f_X2_fewestOfFirst N (x + 5) (nI a) (nI b) (x + 1) g = some (lowI (blM (aH A) a b (lw l) l.length)) := by
  refine zW_val ?_
  have u1 := (c_XHl hC).1
  unfold f_X2_fewestOfFirst
  refine zW_for (fun k (s : Int32 × Int32) => s.1 = nI (blM (aH A) a b (lw l) k) ∧ s.2 = nI k) l.length (fun k s hk hs => ?_) (fun s hs => ?_) (by omega) (Nat.zero_le _) ⟨rfl, rfl⟩
  · obtain ⟨y1, y2⟩ := s
    obtain ⟨h1, h2⟩ := hs
    dsimp only at h1 h2
    subst h1 h2
    have hM := blM_lt (H := aH A) (a := a) (b := b) (t := lw l) k
    have hM2 : 2 ^ (k + 1) ≤ 2 ^ 17 := p2_le (by omega)
    have hwl := lt8_n (hl k hk)
    have hwd : wdv (l.getD k 0) = nI ((lw l).getD k 0) := by unfold wdv; rw [if_pos (hl k hk), lw_get hk]
    have hw8 : (lw l).getD k 0 < 8 := by rw [lw_get hk]; omega
    show zW (f_X2_fewestOfFirst_6 N (x + 5) (nI a) (nI b) (x + 1) (nI (blM (aH A) a b (lw l) k)) (nI k) g) _
    unfold f_X2_fewestOfFirst_6
    refine w_rdI hT.1 hT.2.2.2.1 ?_
    rw [if_neg (nI_ge hk (by omega))]
    refine w_vs hT.1 (w_eq (e_wordAt hT (by omega)) ?_)
    rw [hwd]
    have hbs : blM (aH A) a b (lw l) (k + 1) = zfold (blF (aH A) a b ((lw l).getD k 0) k (blM (aH A) a b (lw l) k)) (k + 1) 0 := rfl
    rw [hbs]
    generalize (lw l).getD k 0 = w at hw8 ⊢
    generalize blM (aH A) a b (lw l) k = M at hM ⊢
    refine zW_for (fun i (s : Int32 × Int32) => s.1 = nI (zfold (blF (aH A) a b w k M) i 0) ∧ s.2 = nI i) (k + 1) (fun i s hi hs => ?_) (fun s hs => ?_) (by omega) (Nat.zero_le _) ⟨rfl, rfl⟩
    · obtain ⟨z1, z2⟩ := s
      obtain ⟨k1, k2⟩ := hs
      dsimp only at k1 k2
      subst k1 k2
      have hzs : zfold (blF (aH A) a b w k M) (i + 1) 0 = blF (aH A) a b w k M i (zfold (blF (aH A) a b w k M) i 0) := rfl
      rw [hzs]
      show zW (f_X2_fewestOfFirst_29 N (x + 5) (nI a) (nI b) (x + 1) (nI M) (nI k) (nI w) (nI (zfold (blF (aH A) a b w k M) i 0)) (nI i) g) _
      generalize zfold (blF (aH A) a b w k M) i 0 = acc
      unfold f_X2_fewestOfFirst_29 f_X2_fewestOfFirst_68 f_X2_fewestOfFirst_96 f_X2_fewestOfFirst_99 blF
      rw [if_neg (nI_nlt (by omega) (by omega)), bit_e2 (by omega) (by omega), nI_sub (show i ≤ k by omega)]
      by_cases e : M / 2 ^ i % 2 = 1
      · rw [e, if_neg (show ¬ nI 1 = 0 by decide), if_pos rfl]
        refine w_vs u1 (w_eq (e_saidAt hC hA ha (by omega) hw8) ?_)
        cases h1 : hd (aH A) a i w with
        | false =>
          rw [if_pos (bI_eq rfl), if_neg Bool.false_ne_true, or_z0, Nat.or_zero]
          refine w_vs u1 (w_eq (e_saidAt hC hA hb (by omega) hw8) ?_)
          cases h2 : hd (aH A) b (k - i) w with
          | false =>
            rw [if_pos (bI_eq rfl), if_neg Bool.false_ne_true, or_z0, Nat.or_zero, zW_some, zI_inl, c_1, nI_add]
            exact ⟨rfl, rfl⟩
          | true =>
            rw [if_neg (bI_ne rfl), if_pos rfl, or_z0, shl_e i (by omega), nI_or, zW_some, zI_inl, c_1, nI_add]
            exact ⟨rfl, rfl⟩
        | true =>
          rw [if_neg (bI_ne rfl), if_pos rfl, shl2 i (by omega), nI_or]
          refine w_vs u1 (w_eq (e_saidAt hC hA hb (by omega) hw8) ?_)
          cases h2 : hd (aH A) b (k - i) w with
          | false =>
            rw [if_pos (bI_eq rfl), if_neg Bool.false_ne_true, or_z0, Nat.or_zero, zW_some, zI_inl, c_1, nI_add]
            exact ⟨rfl, rfl⟩
          | true =>
            rw [if_neg (bI_ne rfl), if_pos rfl, shl_e i (by omega), nI_or, zW_some, zI_inl, c_1, nI_add]
            exact ⟨rfl, rfl⟩
      · rw [show M / 2 ^ i % 2 = 0 by omega, if_pos (show nI 0 = 0 from rfl), if_neg (by decide), zW_some, zI_inl, c_1, nI_add]
        exact ⟨rfl, rfl⟩
    · obtain ⟨z1, z2⟩ := s
      obtain ⟨k1, k2⟩ := hs
      dsimp only at k1 k2
      subst k1 k2
      show zW (f_X2_fewestOfFirst_29 N (x + 5) (nI a) (nI b) (x + 1) (nI M) (nI k) (nI w) _ (nI (k + 1)) g) _
      unfold f_X2_fewestOfFirst_29
      rw [if_pos (nI_lt (by omega) (by omega)), Option.map_some, zW_some, zI_inr, zI_inl, c_1, nI_add]
      exact ⟨rfl, rfl⟩
  · obtain ⟨y1, y2⟩ := s
    obtain ⟨h1, h2⟩ := hs
    dsimp only at h1 h2
    subst h1 h2
    have hM := blM_lt (H := aH A) (a := a) (b := b) (t := lw l) l.length
    have hM2 : 2 ^ (l.length + 1) ≤ 2 ^ 17 := p2_le (by omega)
    show zW (f_X2_fewestOfFirst_6 N (x + 5) (nI a) (nI b) (x + 1) (nI (blM (aH A) a b (lw l) l.length)) (nI l.length) g) _
    unfold f_X2_fewestOfFirst_6
    refine w_rdI hT.1 hT.2.2.2.1 ?_
    rw [if_pos (nI_le (Nat.le_refl _) (by omega)), e_lowest hN (by omega), Option.bind_some, Option.map_some, zW_some, zI_inr]
theorem r_blendOf {m c a b : Nat} {g : ZS} {A : ZA} {l : List Nat} (hN : 10000 ≤ N) (hR : RJ m g A) (hA : AI A c) (ha : a < 4) (hb : b < 4) (hT : ∀ j, j < l.length → zgi g (m + 8) j = nI (l.getD j 0 - 97)) (h16 : l.length ≤ 16) (hl : ∀ p, p < l.length → lt8 (l.getD p 0) = true) : zW (f_X12_blendOf N m (nI a) (nI b) (nI l.length) g) (fun o => o.1 = lowI (blM (aH A) a b (lw l) l.length) ∧ zJ (fun x _ => x = m + 20) g o.2 ∧ RJ m o.2 A) := by
  unfold f_X12_blendOf
  refine w_rdR hR.1.s0 hR.1.r31 ?_
  rw [c_0, c_1, w20_17 hR.1.s20 (by omega), Option.bind_some]
  refine zW_forI (fun k g' => zJ (fun x _ => x = m + 20) g g' ∧ zgi g' (m + 20) k = nI (blM (aH A) a b (lw l) k)) l.length (fun k g2 hk hI => ?_) (fun g2 hI => ?_) (by omega) (Nat.zero_le _) ⟨zJ.setI rfl, by rw [gi_sI, if_pos ⟨rfl, rfl⟩]; rfl⟩
  · obtain ⟨J2, e2⟩ := hI
    have R2 := hR.keep hA (J2.toM (m := m)) (fun a j z => by omega)
    have hM := blM_lt (H := aH A) (a := a) (b := b) (t := lw l) k
    have hM2 : 2 ^ (k + 1) ≤ 2 ^ 17 := p2_le (by omega)
    have hw8 : (lw l).getD k 0 < 8 := by rw [lw_get hk]; have := lt8_n (hl k hk); omega
    have hc8 : zgi g2 (m + 8) k = nI ((lw l).getD k 0) := by rw [J2.gi (by omega), lw_get hk]; exact hT k hk
    show zW (f_X12_blendOf_10 N m (nI a) (nI b) (nI l.length) (nI k) g2) _
    unfold f_X12_blendOf_10
    rw [if_neg (nI_ge hk (by omega))]
    refine w_rdR R2.1.s0 R2.1.r31 ?_
    rw [c_1, nI_add, c_0, w20_17 R2.1.s20 (by omega), Option.bind_some]
    have hbs : blM (aH A) a b (lw l) (k + 1) = zfold (blF (aH A) a b ((lw l).getD k 0) k (blM (aH A) a b (lw l) k)) (k + 1) 0 := rfl
    rw [hbs]
    generalize (lw l).getD k 0 = w at hw8 hc8 ⊢
    generalize blM (aH A) a b (lw l) k = M at hM e2 ⊢
    obtain ⟨ya1, ya2⟩ := R2.2.2.2.2.1 a ha
    obtain ⟨yb1, yb2⟩ := R2.2.2.2.2.1 b hb
    obtain ⟨za1, za2, za3⟩ := hA.2.1.2 a ha
    obtain ⟨zb1, zb2, zb3⟩ := hA.2.1.2 b hb
    refine zW_forI (fun i g' => zJ (fun x j => x = m + 20 ∧ j = k + 1) g2 g' ∧ zgi g' (m + 20) (k + 1) = nI (zfold (blF (aH A) a b w k M) i 0)) (k + 1) (fun i g3 hi hI => ?_) (fun g3 hI => ?_) (by omega) (Nat.zero_le _) ⟨zJ.setI ⟨rfl, rfl⟩, by rw [gi_sI, if_pos ⟨rfl, rfl⟩]; rfl⟩
    · obtain ⟨J3, e3⟩ := hI
      have R3 := R2.keep hA (J3.toM (m := m)) (fun a j z => by omega)
      have hzs : zfold (blF (aH A) a b w k M) (i + 1) 0 = blF (aH A) a b w k M i (zfold (blF (aH A) a b w k M) i 0) := rfl
      rw [hzs]
      generalize zfold (blF (aH A) a b w k M) i 0 = acc at e3 ⊢
      have e4 : zgi g3 (m + 20) k = nI M := by rw [J3.gi (by omega)]; exact e2
      have e5 : zgi g3 (m + 8) k = nI w := by rw [J3.gi (by omega)]; exact hc8
      have fa1 : zgi g3 (m + 5) a = nI (aH A a).length := by rw [J3.gi (by omega)]; exact ya1
      have fb1 : zgi g3 (m + 5) b = nI (aH A b).length := by rw [J3.gi (by omega)]; exact yb1
      -- the second house
      have second : ∀ (acc' : Nat) (g4 : ZS), zJ (fun x j => x = m + 20 ∧ j = k + 1) g3 g4 → zgi g4 (m + 20) (k + 1) = nI acc' → zW (f_X12_blendOf_105 N m (nI a) (nI b) (nI l.length) (nI k) (nI i) g4) (zI (fun s : Int32 × ZS => s.1 = nI (i + 1) ∧ zJ (fun x j => x = m + 20 ∧ j = k + 1) g2 s.2 ∧ zgi s.2 (m + 20) (k + 1) = nI (acc' ||| (if hd (aH A) b (k - i) w = true then 2 ^ i else 0))) (zI (fun s : Int32 × ZS => s.1 = nI (k + 1) ∧ zJ (fun x _ => x = m + 20) g s.2 ∧ zgi s.2 (m + 20) (k + 1) = nI (zfold (blF (aH A) a b w k M) (k + 1) 0)) (fun o : Int32 × ZS => o.1 = lowI (blM (aH A) a b (lw l) l.length) ∧ zJ (fun x _ => x = m + 20) g o.2 ∧ RJ m o.2 A))) := by
        intro acc' g4 J4 e6
        have R4 := R3.keep hA (J4.toM (m := m)) (fun a j z => by omega)
        have f1 : zgi g4 (m + 5) b = nI (aH A b).length := by rw [J4.gi (by omega)]; exact fb1
        have f2 : zgi g4 (m + 8) k = nI w := by rw [J4.gi (by omega)]; exact e5
        unfold f_X12_blendOf_105 f_X12_blendOf_160 hd
        refine w_rdR R4.1.s0 R4.1.r5 ?_
        rw [a20_4 R4.1.s5 hb, f1, Option.bind_some, nI_sub (show i ≤ k by omega)]
        by_cases c1 : (aH A b).length ≤ k - i
        · rw [if_pos (nI_le c1 (by omega)), decide_eq_false (fun h => by omega), if_neg Bool.false_ne_true, Nat.or_zero, zW_some, zI_inl, c_1, nI_add]
          exact ⟨rfl, J3.trans J4, e6⟩
        · have g1 := zb3 (k - i) (by omega)
          have f3 : zgi g4 (m + 4) (16 * b + (k - i)) = nI ((aH A b).getD (k - i) 0) := by rw [J4.gi (by omega), J3.gi (by omega)]; exact yb2 _ (by omega)
          rw [if_neg (nI_ge (by omega) (by omega))]
          refine w_rdR R4.1.s0 R4.1.r4 ?_
          rw [c_16, nI_mul, nI_add, nI_sub (by omega), show 16 * b + k - i = 16 * b + (k - i) by omega, a20_64 R4.1.s4 (by omega), f3, Option.bind_some]
          refine w_rdR R4.1.s0 R4.1.r16 ?_
          rw [a20_80 R4.1.s8 (by omega), f2, Option.bind_some]
          by_cases c2 : (aH A b).getD (k - i) 0 = w
          · rw [if_pos (by rw [c2]), decide_eq_true ⟨by omega, c2⟩, if_pos rfl]
            refine w_rdR R4.1.s0 R4.1.r31 ?_
            rw [c_1, nI_add, a20_17 R4.1.s20 (by omega), e6, Option.bind_some, show nI 1 <<< (nI i &&& 31) = nI (2 ^ i) from shl_e i (by omega), nI_or, w20_17 R4.1.s20 (by omega), Option.bind_some, zW_some, zI_inl, nI_add]
            exact ⟨rfl, (J3.trans J4).setI' ⟨rfl, rfl⟩, by show zgi (zsetI g4 (m + 20) (k + 1) _) (m + 20) (k + 1) = _; rw [gi_sI, if_pos ⟨rfl, rfl⟩]⟩
          · rw [if_neg (fun h => c2 ((nI_eq (by omega) (by omega)).mp h)), decide_eq_false (fun h => c2 h.2), if_neg Bool.false_ne_true, Nat.or_zero, zW_some, zI_inl, c_1, nI_add]
            exact ⟨rfl, J3.trans J4, e6⟩
      show zW (f_X12_blendOf_29 N m (nI a) (nI b) (nI l.length) (nI k) (nI i) g3) _
      unfold f_X12_blendOf_29 blF
      rw [if_neg (nI_nlt (by omega) (by omega))]
      refine w_rdR R3.1.s0 R3.1.r31 ?_
      rw [a20_17 R3.1.s20 (by omega), e4, Option.bind_some, e_has (by omega) (by omega), Option.bind_some]
      by_cases e : M / 2 ^ i % 2 = 1
      · rw [if_neg (bI_ne (decide_eq_true e)), if_pos e]
        refine w_rdR R3.1.s0 R3.1.r5 ?_
        rw [a20_4 R3.1.s5 ha, fa1, Option.bind_some]
        by_cases c1 : (aH A a).length ≤ i
        · rw [if_pos (nI_le c1 (by omega)), show hd (aH A) a i w = false from decide_eq_false (fun h => by omega), if_neg Bool.false_ne_true, Nat.or_zero]
          exact second acc g3 zJ.rfl e3
        · have g1 := za3 i (by omega)
          have f3 : zgi g3 (m + 4) (16 * a + i) = nI ((aH A a).getD i 0) := by rw [J3.gi (by omega)]; exact ya2 _ (by omega)
          rw [if_neg (nI_ge (by omega) (by omega))]
          refine w_rdR R3.1.s0 R3.1.r4 ?_
          rw [c_16, nI_mul, nI_add, a20_64 R3.1.s4 (by omega), f3, Option.bind_some]
          refine w_rdR R3.1.s0 R3.1.r16 ?_
          rw [a20_80 R3.1.s8 (by omega), e5, Option.bind_some]
          by_cases c2 : (aH A a).getD i 0 = w
          · rw [if_pos (by rw [c2]), show hd (aH A) a i w = true from decide_eq_true ⟨by omega, c2⟩, if_pos rfl]
            refine w_rdR R3.1.s0 R3.1.r31 ?_
            rw [c_1, nI_add, nI_add, a20_17 R3.1.s20 (by omega), e3, Option.bind_some, show nI 1 <<< (nI (i + 1) &&& 31) = nI (2 ^ (i + 1)) from shl_e (i + 1) (by omega), nI_or, w20_17 R3.1.s20 (by omega), Option.bind_some]
            exact second (acc ||| 2 ^ (i + 1)) _ (zJ.setI ⟨rfl, rfl⟩) (by rw [gi_sI, if_pos ⟨rfl, rfl⟩])
          · rw [if_neg (fun h => c2 ((nI_eq (by omega) (by omega)).mp h)), show hd (aH A) a i w = false from decide_eq_false (fun h => c2 h.2), if_neg Bool.false_ne_true, Nat.or_zero]
            exact second acc g3 zJ.rfl e3
      · unfold f_X12_blendOf_160
        rw [if_pos (bI_eq (decide_eq_false e)), if_neg e, zW_some, zI_inl, c_1, nI_add]
        exact ⟨rfl, J3, e3⟩
    · obtain ⟨J3, e3⟩ := hI
      show zW (f_X12_blendOf_29 N m (nI a) (nI b) (nI l.length) (nI k) (nI (k + 1)) g3) _
      unfold f_X12_blendOf_29
      rw [if_pos (nI_lt (by omega) (by omega)), Option.map_some, zW_some, zI_inr, zI_inl, c_1, nI_add]
      exact ⟨rfl, J2.trans (J3.mono (fun a j z => z.1)), e3⟩
  · obtain ⟨J2, e2⟩ := hI
    have R2 := hR.keep hA (J2.toM (m := m)) (fun a j z => by omega)
    have hM := blM_lt (H := aH A) (a := a) (b := b) (t := lw l) l.length
    have hM2 : 2 ^ (l.length + 1) ≤ 2 ^ 17 := p2_le (by omega)
    show zW (f_X12_blendOf_10 N m (nI a) (nI b) (nI l.length) (nI l.length) g2) _
    unfold f_X12_blendOf_10 f_X12_blendOf_194
    rw [if_pos (nI_le (Nat.le_refl _) (by omega)), zW_map]
    refine w_rdR R2.1.s0 R2.1.r31 ?_
    rw [a20_17 R2.1.s20 (by omega), e2, Option.bind_some]
    by_cases e0 : blM (aH A) a b (lw l) l.length = 0
    · rw [if_pos (by rw [e0]; rfl), zW_some, zI_inr, low_0 e0]
      exact ⟨rfl, J2, R2⟩
    · obtain ⟨i, hi, e3, e4⟩ := low_p (K := blM (aH A) a b (lw l) l.length) (e := 17) (by omega) (by omega) (by omega)
      rw [if_neg (nI_ne0 (by omega) (by omega))]
      refine w_rdR R2.1.s0 R2.1.r31 ?_
      rw [a20_17 R2.1.s20 (by omega), e2, Option.bind_some, e4, Option.bind_some, zW_some, zI_inr, e3]
      exact ⟨rfl, J2, R2⟩
end BL1
