/-! ===== words that are said are different; sums; gain ===== -/
theorem ins_nodup {fd : Nat → Int32} {w : Nat} {l : List Nat} (h : l.Nodup) (hw : w ∉ l) : (ins fd w l).Nodup := by
  unfold ins
  exact (List.perm_middle.nodup_iff).mpr (by rw [List.take_append_drop]; exact List.nodup_cons.mpr ⟨hw, h⟩)
theorem sayL_nodup {fd : Nat → Int32} {O : Nat → Nat} : ∀ k, (sayL fd O k).Nodup
  | 0 => List.nodup_nil
  | k + 1 => by
    rw [sayL_succ]
    split
    · exact ins_nodup (sayL_nodup k) (fun h => absurd (sayL_lt k k h).1 (Nat.lt_irrefl k))
    · exact sayL_nodup k
theorem getD_ge' {l : List Nat} {i : Nat} (h : i < l.length) : l.getD i 0 = l[i] := by
  rw [List.getD_eq_getElem?_getD, List.getElem?_eq_getElem h]; rfl
theorem sayA_ne {A : ZA} {b : ZB} {me i j : Nat} (hij : i < j) (hj : j < (sayA A b me).length) : (sayA A b me).getD i 0 ≠ (sayA A b me).getD j 0 := by
  have hn : (sayA A b me).Nodup := (List.take_sublist _ _).nodup (sayL_nodup 8)
  have h := List.pairwise_iff_getElem.mp hn i j (by omega) hj hij
  rw [getD_ge' (by omega), getD_ge' hj]
  exact h
def smN (f : Nat → Nat) : Nat → Nat
  | 0 => 0
  | n + 1 => smN f n + f n
theorem smN_congr {f f' : Nat → Nat} : ∀ n, (∀ i, i < n → f' i = f i) → smN f' n = smN f n
  | 0, _ => rfl
  | n + 1, h => by show smN f' n + f' n = smN f n + f n; rw [smN_congr n (fun i hi => h i (by omega)), h n (by omega)]
theorem smN_le {f : Nat → Nat} {k : Nat} : ∀ n, (∀ i, i < n → f i ≤ k) → smN f n ≤ k * n
  | 0, _ => Nat.zero_le _
  | n + 1, h => by
    show smN f n + f n ≤ k * (n + 1)
    have h1 := smN_le n (fun i hi => h i (by omega))
    have h2 := h n (by omega)
    rw [Nat.mul_add]; omega
/-- the one place p is changed -/
theorem smN_up {f f' : Nat → Nat} {p : Nat} (h : ∀ i, i ≠ p → f' i = f i) : ∀ n, smN f' n + (if p < n then f p else 0) = smN f n + (if p < n then f' p else 0)
  | 0 => rfl
  | n + 1 => by
    show smN f' n + f' n + _ = smN f n + f n + _
    have ih := smN_up h n
    by_cases e : p = n
    · subst e
      rw [if_neg (Nat.lt_irrefl p), if_neg (Nat.lt_irrefl p)] at ih
      rw [if_pos (by omega), if_pos (by omega)]; omega
    · rw [h n (fun x => e x.symm)]
      by_cases e2 : p < n
      · rw [if_pos e2, if_pos e2] at ih
        rw [if_pos (by omega), if_pos (by omega)]; omega
      · rw [if_neg e2, if_neg e2] at ih
        rw [if_neg (by omega), if_neg (by omega)]; omega
/-! bits of a row of words -/
def bN (l : List Nat) (n : Nat) : Nat := zfold (fun i acc => acc ||| 2 ^ l.getD i 0) n 0
theorem or256 : ∀ a, a < 256 → ∀ p, p < 8 → (nI a ||| bitW p = nI (a ||| 2 ^ p) ∧ a ||| 2 ^ p < 256) := by decide +kernel
theorem bN_e {l : List Nat} : ∀ n, (∀ i, i < n → l.getD i 0 < 8) → bitsN l n = nI (bN l n) ∧ bN l n < 256
  | 0, _ => ⟨rfl, by show 0 < 256; omega⟩
  | n + 1, h => by
    obtain ⟨h1, h2⟩ := bN_e n (fun i hi => h i (by omega))
    have h3 := or256 _ h2 _ (h n (by omega))
    refine ⟨?_, h3.2⟩
    show bitsN l n ||| bitW (l.getD n 0) = _
    rw [h1]; exact h3.1
theorem bN_s {l : List Nat} {n : Nat} : bN l (n + 1) = bN l n ||| 2 ^ l.getD n 0 := rfl
theorem or_bit {a p w : Nat} : ((a ||| 2 ^ p) / 2 ^ w % 2 = 1) ↔ (a / 2 ^ w % 2 = 1 ∨ w = p) := by
  have h := Nat.testBit_or a (2 ^ p) w
  rw [Nat.testBit_eq_decide_div_mod_eq, Nat.testBit_eq_decide_div_mod_eq, Nat.testBit_two_pow] at h
  constructor
  · intro e
    rw [decide_eq_true e] at h
    by_cases e2 : a / 2 ^ w % 2 = 1
    · exact Or.inl e2
    · rw [decide_eq_false e2, Bool.false_or] at h
      exact Or.inr (of_decide_eq_true h.symm).symm
  · intro e
    refine of_decide_eq_true (h.trans ?_)
    rcases e with e | e
    · rw [decide_eq_true e, Bool.true_or]
    · rw [decide_eq_true e.symm, Bool.or_true]
theorem bN_bit {l : List Nat} {w : Nat} : ∀ n, (bN l n / 2 ^ w % 2 = 1) ↔ ∃ i, i < n ∧ l.getD i 0 = w
  | 0 => ⟨fun h => by
      have : bN l 0 / 2 ^ w % 2 = 0 := by show 0 / 2 ^ w % 2 = 0; rw [Nat.zero_div]
      omega, fun ⟨i, hi, _⟩ => absurd hi (Nat.not_lt_zero i)⟩
  | n + 1 => by
    rw [bN_s, or_bit, bN_bit n]
    constructor
    · rintro (⟨i, hi, e⟩ | e)
      · exact ⟨i, by omega, e⟩
      · exact ⟨n, by omega, e.symm⟩
    · rintro ⟨i, hi, e⟩
      by_cases h : i = n
      · subst h; exact Or.inr e.symm
      · exact Or.inl ⟨i, by omega, e⟩
/-- summed by words, or in the order in which they are said -/
theorem sum_words {l : List Nat} {W : Nat → Nat} : ∀ n, n ≤ l.length → (∀ i, i < n → l.getD i 0 < 8) → (∀ i j, i < j → j < n → l.getD i 0 ≠ l.getD j 0) → smN (fun w => if bN l n / 2 ^ w % 2 = 1 then W w else 0) 8 = smN (fun i => W (l.getD i 0)) n
  | 0, _, _, _ => by
    have : ∀ w, (if bN l 0 / 2 ^ w % 2 = 1 then W w else 0) = 0 := fun w => if_neg (fun h => by
      obtain ⟨i, hi, _⟩ := (bN_bit 0).mp h
      exact absurd hi (Nat.not_lt_zero i))
    show smN _ 8 = 0
    simp only [smN, this]
  | n + 1, hn, h8, hne => by
    have ih := sum_words (W := W) n (by omega) (fun i hi => h8 i (by omega)) (fun i j hij hj => hne i j hij (by omega))
    show _ = smN (fun i => W (l.getD i 0)) n + W (l.getD n 0)
    rw [← ih]
    have hp := h8 n (by omega)
    have hb : ∀ w, w ≠ l.getD n 0 → (if bN l (n + 1) / 2 ^ w % 2 = 1 then W w else 0) = (if bN l n / 2 ^ w % 2 = 1 then W w else 0) := fun w hw => by
      by_cases e : bN l n / 2 ^ w % 2 = 1
      · rw [if_pos e, if_pos (by rw [bN_s, or_bit]; exact Or.inl e)]
      · rw [if_neg e, if_neg (by rw [bN_s, or_bit]; exact fun h => h.elim e hw)]
    have hu := smN_up (f := fun w => if bN l n / 2 ^ w % 2 = 1 then W w else 0) (f' := fun w => if bN l (n + 1) / 2 ^ w % 2 = 1 then W w else 0) (p := l.getD n 0) hb 8
    rw [if_pos hp, if_pos hp, if_neg (fun h => by
      obtain ⟨i, hi, e⟩ := (bN_bit n).mp h
      exact hne i n hi (by omega) e), if_pos (show bN l (n + 1) / 2 ^ (l.getD n 0) % 2 = 1 by rw [bN_s, or_bit]; exact Or.inr rfl), Nat.add_zero] at hu
    exact hu
/-- what a row is worth, its first k words -/
def gN (A : ZA) (k p : Nat) : Nat := smN (fun i => aW A ((sayA A (aB A p) (ame A p)).getD i 0)) (min k (sayA A (aB A p) (ame A p)).length)
theorem gN_le {A : ZA} {c k p : Nat} (hA : AI A c) : gN A k p ≤ 72 := by
  have h8 : (sayA A (aB A p) (ame A p)).length ≤ 8 := says_len
  have := smN_le (f := fun i => aW A ((sayA A (aB A p) (ame A p)).getD i 0)) (k := 9) (min k (sayA A (aB A p) (ame A p)).length) (fun i hi => hA.2.1.1 _ (sayA_lt (by omega)).1)
  unfold gN
  omega
section GA
variable {N : Nat}
theorem e_worthFirst {x c k p : Nat} {g : ZS} {A : ZA} (hN : 10000 ≤ N) (hC : CJ x g A) (hA : AI A c) (hT : TS g (x + 480) (sayA A (aB A p) (ame A p))) (hk : k ≤ 8) : f_X11_worthOfFirst N x (nI k) g = some (nI (gN A k p)) := by
  have hlt := fun j hj => (sayA_lt (A := A) (b := aB A p) (me := ame A p) (j := j) hj).1
  unfold gN
  generalize sayA A (aB A p) (ame A p) = l at *
  obtain ⟨k1, k2, k3⟩ := hT
  obtain ⟨t1, t2, t3, t4, t5, t6, t7, t8⟩ := hC.1.TL480.f
  have s0 := hC.1.s0
  have r3 := hC.1.r0_3
  have r12 := hC.1.r0_12
  have s12 := hC.1.s12
  have hW := hC.2.2.2.1
  unfold f_X11_worthOfFirst
  have hl := loopA (body := fun s => f_X11_worthOfFirst_4 N x (nI k) s.1 s.2 g) (fun i acc => acc + nI (aW A (l.getD i 0))) (min k l.length) id (fun i y => y = nI (smN (fun i => aW A (l.getD i 0)) i)) (a := nI 0) rfl (fun i y hi hy => ⟨?_, ?_⟩) (fun y hy => ?_) (N := N) (by omega)
  · refine hl.trans ?_
    have : ∀ n, zfold (fun i acc => acc + nI (aW A (l.getD i 0))) n (nI 0) = nI (smN (fun i => aW A (l.getD i 0)) n) := fun n => by
      induction n with
      | zero => rfl
      | succ n ih =>
        show zfold _ n (nI 0) + nI _ = _
        rw [ih, nI_add]; rfl
    rw [this]; rfl
  · obtain ⟨e1, e2⟩ := k3 i (by omega)
    have e3 := hW _ e2
    show f_X11_worthOfFirst_4 N x (nI k) y (nI i) g = _
    unfold f_X11_worthOfFirst_4
    rw [if_neg (nI_ge (by omega) (by omega)), p_rdR s0, r12, Option.bind_some, p_rdI t1, Option.bind_some, k1, if_neg (nI_ge (by omega) (by omega)), p_rdR s0, r3, Option.bind_some, Option.bind_some, p_rdR t1, t5, Option.bind_some, a20_8 t2 (by omega), Option.bind_some, e1, a20_8 s12 e2, Option.bind_some, e3, c_1, nI_add]
  · rw [hy, nI_add]; rfl
  · show f_X11_worthOfFirst_4 N x (nI k) y (nI (min k l.length)) g = _
    unfold f_X11_worthOfFirst_4 f_X11_worthOfFirst_43
    by_cases e : k ≤ l.length
    · rw [Nat.min_eq_left e, if_pos (nI_le (Nat.le_refl _) (by omega))]; rfl
    · rw [Nat.min_eq_right (by omega), if_neg (nI_ge (by omega) (by omega)), p_rdR s0, r12, Option.bind_some, p_rdI t1, Option.bind_some, k1, if_pos (nI_le (Nat.le_refl _) (by omega))]; rfl
theorem r_worthOf {m c p k : Nat} {g : ZS} {A : ZA} (hN : 10000 ≤ N) (hR : RJ m g A) (hA : AI A c) (hp : p < an A) (hk : k ≤ 8) : zW (f_X12_worthOf N m (nI p) (nI k) g) (fun o => o.1 = nI (gN A k p) ∧ zM m (SY m (m + 12)) g o.2 ∧ RJ m o.2 A) := by
  have h8 : (sayA A (aB A p) (ame A p)).length ≤ 8 := says_len
  unfold f_X12_worthOf
  refine w_vs hR.1.s0 ((r_saidBits hN hR hA hp hk).bind (fun o ho => ?_))
  obtain ⟨y, g2⟩ := o
  obtain ⟨o1, o2, o3⟩ := ho
  dsimp only at o1 o2 o3 ⊢
  have hlt := fun j hj => (sayA_lt (A := A) (b := aB A p) (me := ame A p) (j := j) hj).1
  obtain ⟨q1, q2⟩ := bN_e (l := (sayA A (aB A p) (ame A p))) (min k (sayA A (aB A p) (ame A p)).length) (fun i hi => hlt i (by omega))
  rw [o1, q1]
  have hsum := sum_words (l := (sayA A (aB A p) (ame A p))) (W := aW A) (min k (sayA A (aB A p) (ame A p)).length) (by omega) (fun i hi => hlt i (by omega)) (fun i j hij hj => sayA_ne hij (by omega))
  have s0 := o3.1.s0
  have r3 := o3.1.r3
  have s3 := o3.1.s3
  have hW := o3.2.2.2.2.2.1
  refine zW_for (fun i (s : Int32 × Int32) => s.1 = nI (smN (fun w => if bN (sayA A (aB A p) (ame A p)) (min k (sayA A (aB A p) (ame A p)).length) / 2 ^ w % 2 = 1 then aW A w else 0) i) ∧ s.2 = nI i) 8 (fun i s hi hs => ?_) (fun s hs => ?_) (by omega) (Nat.zero_le _) ⟨rfl, rfl⟩
  · obtain ⟨y1, y2⟩ := s
    obtain ⟨h1, h2⟩ := hs
    dsimp only at h1 h2
    subst h1 h2
    show zW (f_X12_worthOf_13 N m _ _ (nI i) g2) _
    unfold f_X12_worthOf_13 f_X12_worthOf_42
    rw [c_8, if_neg (nI_ge hi (by omega)), e_has (by omega) (by omega), Option.bind_some]
    by_cases e : bN (sayA A (aB A p) (ame A p)) (min k (sayA A (aB A p) (ame A p)).length) / 2 ^ i % 2 = 1
    · rw [if_neg (bI_ne (decide_eq_true e)), p_rdR s0, r3, Option.bind_some, a20_8 s3 hi, Option.bind_some, hW i hi, zW_some, zI_inl, c_1, nI_add, nI_add]
      refine ⟨?_, rfl⟩
      show _ = nI (_ + (if bN (sayA A (aB A p) (ame A p)) (min k (sayA A (aB A p) (ame A p)).length) / 2 ^ i % 2 = 1 then aW A i else 0))
      rw [if_pos e]
    · rw [if_pos (bI_eq (decide_eq_false e)), zW_some, zI_inl, c_1, nI_add, c_0, nI_add]
      refine ⟨?_, rfl⟩
      show _ = nI (_ + (if bN (sayA A (aB A p) (ame A p)) (min k (sayA A (aB A p) (ame A p)).length) / 2 ^ i % 2 = 1 then aW A i else 0))
      rw [if_neg e]
  · obtain ⟨y1, y2⟩ := s
    obtain ⟨h1, h2⟩ := hs
    dsimp only at h1 h2
    subst h1 h2
    show zW (f_X12_worthOf_13 N m _ _ (nI 8) g2) _
    unfold f_X12_worthOf_13
    rw [c_8, if_pos (nI_le (Nat.le_refl _) (by omega)), Option.map_some, zW_some, zI_inr, hsum]
    exact ⟨rfl, o2, o3⟩
def gB (f : Nat → Nat) : Nat → Nat
  | 0 => 0
  | n + 1 => if f (gB f n) < f n then n else gB f n
theorem gB_lt {f : Nat → Nat} : ∀ n, gB f n ≤ n - 1
  | 0 => Nat.le_refl _
  | n + 1 => by
    have := gB_lt (f := f) n
    show (if f (gB f n) < f n then n else gB f n) ≤ n + 1 - 1
    split <;> omega
theorem k_gain (hN : 10000 ≤ N) (v u : Int32) : Call (fun x g => f_X11_gain N x v u g) (fun m g => f_X12_gain N m v u g) := call_q (fun x m c g A hC hA hc => by
  have n6 := hA.1.1
  by_cases hvu : rb v 0 (an A) = true ∧ rb u 0 (8 + 1) = true
  · obtain ⟨hv, hu⟩ := hvu
    obtain ⟨p, -, hp, rfl⟩ := rb_t hv (by omega)
    obtain ⟨k, -, hk, rfl⟩ := rb_t hu (by omega)
    have g72 := fun p => gN_le (k := k) (p := p) hA
    obtain ⟨f, hf⟩ : ∃ f : Nat → Nat, f = gN A k := ⟨_, rfl⟩
    have hfe : ∀ p, gN A k p = f p := fun p => by rw [hf]
    have f72 : ∀ p, f p ≤ 72 := fun p => by rw [← hfe]; exact g72 p
    refine ⟨nI (f p), [wL (gB f (an A)), wL (f (gB f (an A)))], by simp, ?_, fun g' hR => ?_⟩
    · unfold QC f_X11_gain f_X11_gain_18
      refine w_vs hC.1.1.s0 (w_eq (e_ip11 hC.1 hA) ?_)
      rw [if_neg (bI_ne hv), c_0, c_8, rngB (by omega) (by omega), if_pos hu]
      refine zW_for (fun i (s : Int32 × Int32 × Int32 × Int32 × ZS) => s.1 = (if p < i then nI (f p) else nI 0) ∧ s.2.1 = (if i = 0 then -1 else nI (gB f i)) ∧ s.2.2.1 = (if i = 0 then -1 else nI (f (gB f i))) ∧ s.2.2.2.1 = nI i ∧ zJ (SFc x (x + 480)) g s.2.2.2.2 ∧ CJ x s.2.2.2.2 A) (an A) (fun i s hi hs => ?_) (fun s hs => ?_) (by omega) (Nat.zero_le _) ⟨rfl, rfl, rfl, rfl, zJ.rfl, hC.1⟩
      · obtain ⟨y1, y2, y3, y4, g2⟩ := s
        obtain ⟨h1, h2, h3, h4, h5, h6⟩ := hs
        dsimp only at h1 h2 h3 h4 h5 h6
        subst h4
        show zW (f_X11_gain_31 N x (nI p) (nI k) y1 y2 y3 (nI i) g2) _
        unfold f_X11_gain_31
        refine c_size h6 ?_
        rw [if_neg (nI_ge hi (by omega))]
        refine c_say hN h6 hA hi (Or.inl ⟨rfl, rfl⟩) (fun g3 J3 T3 C3 => ?_)
        refine w_vs C3.1.s0 (w_eq (e_worthFirst hN C3 hA T3 (by omega)) ?_)
        rw [hfe]
        have fin : ∀ z, z = (if p < i + 1 then nI (f p) else nI 0) → zW (f_X11_gain_84 N x (nI p) (nI k) z y2 y3 (nI i) (nI (f i)) g3) (zI (fun s : Int32 × Int32 × Int32 × Int32 × ZS => s.1 = (if p < i + 1 then nI (f p) else nI 0) ∧ s.2.1 = (if i + 1 = 0 then -1 else nI (gB f (i + 1))) ∧ s.2.2.1 = (if i + 1 = 0 then -1 else nI (f (gB f (i + 1)))) ∧ s.2.2.2.1 = nI (i + 1) ∧ zJ (SFc x (x + 480)) g s.2.2.2.2 ∧ CJ x s.2.2.2.2 A) (fun o : Int32 × ZS => o.1 = nI (f p) ∧ zJ (Scr x) g o.2 ∧ XR o.2 (x + 3) (x + 4) [wL (gB f (an A)), wL (f (gB f (an A)))])) := by
          intro z hz
          unfold f_X11_gain_84 f_X11_gain_99
          have f1 := f72 i
          have f2 := f72 (gB f i)
          have hg : gB f (i + 1) = if f (gB f i) < f i then i else gB f i := rfl
          by_cases e0 : i = 0
          · subst e0
            rw [if_pos rfl] at h2 h3
            rw [h3, if_neg (show ¬ nI (f 0) ≤ -1 from fun h => (neg1_le (by omega)).mp h), zW_some, zI_inl, c_1, nI_add]
            have hg0 : gB f (0 + 1) = 0 := by rw [hg]; split <;> rfl
            rw [hg0]
            exact ⟨hz, rfl, rfl, rfl, h5.trans J3, C3⟩
          · rw [if_neg e0] at h2 h3
            rw [h2, h3]
            by_cases e : f (gB f i) < f i
            · rw [if_neg (nI_ge e (by omega)), zW_some, zI_inl, c_1, nI_add, hg, if_pos e]
              exact ⟨hz, rfl, rfl, rfl, h5.trans J3, C3⟩
            · rw [if_pos (nI_le (by omega) (by omega)), zW_some, zI_inl, c_1, nI_add, hg, if_neg e]
              exact ⟨hz, rfl, rfl, rfl, h5.trans J3, C3⟩
        by_cases e : i = p
        · rw [if_pos (by rw [e])]
          refine fin _ ?_
          rw [if_pos (by omega), e]
        · rw [if_neg (fun h => e ((nI_eq (by omega) (by omega)).mp h))]
          refine fin _ ?_
          rw [h1]
          by_cases e2 : p < i
          · rw [if_pos e2, if_pos (by omega)]
          · rw [if_neg e2, if_neg (by omega)]
      · obtain ⟨y1, y2, y3, y4, g2⟩ := s
        obtain ⟨h1, h2, h3, h4, h5, h6⟩ := hs
        dsimp only at h1 h2 h3 h4 h5 h6
        subst h4
        rw [if_pos hp] at h1
        rw [if_neg (by omega)] at h2 h3
        subst h1 h2 h3
        show zW (f_X11_gain_31 N x (nI p) (nI k) (nI (f p)) (nI (gB f (an A))) (nI (f (gB f (an A)))) (nI (an A)) g2) _
        unfold f_X11_gain_31
        refine c_size h6 ?_
        rw [if_pos (nI_le (Nat.le_refl _) (by omega)), zW_map]
        refine c_pair h6 hA (fun g3 J3 X3 C3 => ?_)
        rw [zW_some]
        exact ⟨rfl, (h5.mono (fun a j z => by omega)).trans (J3.mono (fun a j z => by omega)), X3⟩
    · unfold QF f_X12_gain f_X12_gain_23
      refine r_start hR hA (fun g1 J0 hR1 _ => ?_)
      refine w_vs hR1.1.1.s0 (w_eq (e_ip hR1.1 hA) ?_)
      rw [if_neg (bI_ne hv), c_8, e_inz (by omega), Option.bind_some, if_neg (bI_ne hu)]
      refine zW_for (fun i (s : Int32 × Int32 × ZS) => 1 ≤ i ∧ s.1 = nI (gB f i) ∧ s.2.1 = nI i ∧ zM m (ScM m) g' s.2.2 ∧ RJ m s.2.2 A) (an A) (fun i s hi hs => ?_) (fun s hs => ?_) (by omega) (show 1 ≤ an A by omega) ⟨Nat.le_refl _, by rw [show gB f 1 = 0 from by show (if f (gB f 0) < f 0 then 0 else gB f 0) = 0; split <;> rfl]; rfl, rfl, J0, hR1.1⟩
      · obtain ⟨y1, y2, g2⟩ := s
        obtain ⟨h0, h1, h2, h3, h4⟩ := hs
        dsimp only at h1 h2 h3 h4
        subst h1 h2
        have hgl := gB_lt (f := f) i
        have f1 := f72 i
        have f2 := f72 (gB f i)
        show zW (f_X12_gain_30 N m (nI p) (nI k) (nI (gB f i)) (nI i) g2) _
        unfold f_X12_gain_30 f_X12_gain_58
        refine w_rdI h4.1.s0 h4.2.2.2.2.2.2.1.1 ?_
        rw [if_neg (nI_ge hi (by omega))]
        refine w_vs h4.1.s0 ((r_worthOf hN h4 hA hi (by omega)).bind (fun o ho => ?_))
        obtain ⟨y, g3⟩ := o
        obtain ⟨o1, o2, o3⟩ := ho
        dsimp only at o1 o2 o3 ⊢
        refine w_vs o3.1.s0 ((r_worthOf hN o3 hA (show gB f i < an A by omega) (by omega)).bind (fun o ho => ?_))
        obtain ⟨y', g4⟩ := o
        obtain ⟨p1, p2, p3⟩ := ho
        dsimp only at p1 p2 p3 ⊢
        rw [o1, p1, hfe, hfe]
        have hJ := (h3.trans (o2.mono (S' := ScM m) (fun a j z => by omega))).trans (p2.mono (fun a j z => by omega))
        have hg : gB f (i + 1) = if f (gB f i) < f i then i else gB f i := rfl
        by_cases e : f (gB f i) < f i
        · rw [if_neg (nI_ge e (by omega)), zW_some, zI_inl, c_1, nI_add, hg, if_pos e]
          exact ⟨by omega, rfl, rfl, hJ, p3⟩
        · rw [if_pos (nI_le (by omega) (by omega)), zW_some, zI_inl, c_1, nI_add, hg, if_neg e]
          exact ⟨by omega, rfl, rfl, hJ, p3⟩
      · obtain ⟨y1, y2, g2⟩ := s
        obtain ⟨h0, h1, h2, h3, h4⟩ := hs
        dsimp only at h1 h2 h3 h4
        subst h1 h2
        have hgl := gB_lt (f := f) (an A)
        show zW (f_X12_gain_30 N m (nI p) (nI k) (nI (gB f (an A))) (nI (an A)) g2) _
        unfold f_X12_gain_30
        refine w_rdI h4.1.s0 h4.2.2.2.2.2.2.1.1 ?_
        rw [if_pos (nI_le (Nat.le_refl _) (by omega)), zW_map]
        refine r_only h4 hA (fun g3 J3 W3 R3 => ?_)
        refine w_vs R3.1.s0 ((r_worthOf hN R3 hA (show gB f (an A) < an A by omega) (by omega)).bind (fun o ho => ?_))
        obtain ⟨y, g4⟩ := o
        obtain ⟨o1, o2, o3⟩ := ho
        dsimp only at o1 o2 o3 ⊢
        have W4 := W3.keepM o2 (by omega) (fun j => by omega)
        refine w_vs o3.1.s0 ((s_tell o3.1 W4 (by simp)).bind (fun g5 h5 => ?_))
        have R5 := o3.keep hA (h5.1.toM (m := m)) (fun a j z => by omega)
        refine w_vs R5.1.s0 ((r_worthOf hN R5 hA hp (by omega)).bind (fun o ho => ?_))
        obtain ⟨y', g6⟩ := o
        obtain ⟨p1, p2, p3⟩ := ho
        dsimp only at p1 p2 p3 ⊢
        rw [zW_some, p1, hfe]
        refine ⟨rfl, (((h3.trans ((J3.toM (m := m)).mono (fun a j z => by omega))).trans (o2.mono (fun a j z => by omega))).trans ((h5.1.toM (m := m)).mono (fun a j z => by omega))).trans (p2.mono (fun a j z => by omega)), ?_⟩
        have W6 := h5.2.keepM p2 (by omega) (fun j => by omega)
        rw [o1, hfe] at W6
        exact W6
  · refine ⟨-1, aR A, hA.2.2.2.2.1, ?_, fun g' hR => ?_⟩
    · unfold QC f_X11_gain f_X11_gain_18
      refine w_vs hC.1.1.s0 (w_eq (e_ip11 hC.1 hA) ?_)
      cases hv : rb v 0 (an A) with
      | false =>
        rw [if_pos (bI_eq rfl), zW_some]
        exact ⟨rfl, zJ.rfl, hC.2⟩
      | true =>
        rw [if_neg (bI_ne rfl), c_0, c_8, rngB (by omega) (by omega), if_neg (fun h => hvu ⟨hv, h⟩), zW_some]
        exact ⟨rfl, zJ.rfl, hC.2⟩
    · unfold QF f_X12_gain f_X12_gain_23
      refine r_start hR hA (fun g1 J0 hR1 _ => ?_)
      refine w_vs hR1.1.1.s0 (w_eq (e_ip hR1.1 hA) ?_)
      cases hv : rb v 0 (an A) with
      | false =>
        rw [if_pos (bI_eq rfl), zW_some]
        exact ⟨rfl, J0, hR1.2⟩
      | true =>
        rw [if_neg (bI_ne rfl), c_8, e_inz (by omega), Option.bind_some, if_pos (bI_eq (Bool.eq_false_iff.mpr (fun h => hvu ⟨hv, h⟩))), zW_some]
        exact ⟨rfl, J0, hR1.2⟩)
end GA
