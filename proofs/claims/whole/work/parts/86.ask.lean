/-! ===== masks of parrots; ask ===== -/
def mk (C : Nat → Bool) (n : Nat) : Nat := zfold (fun p acc => if C p then acc ||| 2 ^ p else acc) n 0
theorem mk_s {C : Nat → Bool} {n : Nat} : mk C (n + 1) = if C n then mk C n ||| 2 ^ n else mk C n := rfl
theorem mk_lt {C : Nat → Bool} : ∀ n, n ≤ 6 → mk C n < 64
  | 0, _ => by show 0 < 64; omega
  | n + 1, h => by
    rw [mk_s]
    split
    · exact (or64 _ (mk_lt n (by omega)) n (by omega)).2
    · exact mk_lt n (by omega)
theorem mk_bit {C : Nat → Bool} {w : Nat} : ∀ n, (mk C n / 2 ^ w % 2 = 1) ↔ (w < n ∧ C w = true)
  | 0 => ⟨fun h => by
      have : mk C 0 / 2 ^ w % 2 = 0 := by show 0 / 2 ^ w % 2 = 0; rw [Nat.zero_div]
      omega, fun h => absurd h.1 (Nat.not_lt_zero w)⟩
  | n + 1 => by
    rw [mk_s]
    cases hC : C n with
    | true =>
      rw [if_pos rfl, or_bit, mk_bit n]
      constructor
      · rintro (⟨h1, h2⟩ | e)
        · exact ⟨by omega, h2⟩
        · subst e; exact ⟨by omega, hC⟩
      · rintro ⟨h1, h2⟩
        by_cases e : w = n
        · exact Or.inr e
        · exact Or.inl ⟨by omega, h2⟩
    | false =>
      rw [if_neg Bool.false_ne_true, mk_bit n]
      constructor
      · rintro ⟨h1, h2⟩; exact ⟨by omega, h2⟩
      · rintro ⟨h1, h2⟩
        by_cases e : w = n
        · subst e; rw [hC] at h2; cases h2
        · exact ⟨by omega, h2⟩
theorem ft_mk {A : ZA} : ∀ n, n ≤ 6 → ftA A n = nI (mk (fun p => suK A p (aN A).length) n)
  | 0, _ => rfl
  | n + 1, h => by
    have ih := ft_mk (A := A) n (by omega)
    rw [mk_s]
    show (if suK A n (aN A).length = true then ftA A n ||| bitW n else ftA A n) = _
    rw [ih]
    split
    · exact (or64 _ (mk_lt n (by omega)) n (by omega)).1
    · rfl
theorem smN_cut {f : Nat → Nat} {n : Nat} (h : ∀ i, n ≤ i → f i = 0) : ∀ k, n ≤ k → smN f k = smN f n
  | 0, hk => by rw [show n = 0 by omega]
  | k + 1, hk => by
    by_cases e : n = k + 1
    · rw [e]
    · show smN f k + f k = _
      rw [h k (by omega), smN_cut h k (by omega)]; rfl
theorem pc_sm {k : Nat} : pc k = smN (fun p => k / 2 ^ p % 2) 12 := by simp [pc, smN]
theorem pc_bits {k n : Nat} {D : Nat → Bool} (hn : n ≤ 12) (h : ∀ p, (k / 2 ^ p % 2 = 1) ↔ (p < n ∧ D p = true)) : pc k = smN (fun p => if D p then 1 else 0) n := by
  rw [pc_sm, smN_cut (n := n) (fun i hi => ?_) 12 hn]
  · refine smN_congr n (fun i hi => ?_)
    have hb := h i
    cases hD : D i with
    | true => rw [if_pos rfl]; exact hb.mpr ⟨hi, hD⟩
    | false =>
      rw [if_neg Bool.false_ne_true]
      have : ¬ k / 2 ^ i % 2 = 1 := fun x => by rw [(hb.mp x).2] at hD; cases hD
      omega
  · have hb := h i
    have : ¬ k / 2 ^ i % 2 = 1 := fun x => by have := (hb.mp x).1; omega
    omega
theorem and64 : ∀ a, a < 64 → ∀ b, b < 64 → (nI a &&& nI b = nI (a &&& b) ∧ a &&& b < 64) := by decide +kernel
theorem and_bit {a b w : Nat} : ((a &&& b) / 2 ^ w % 2 = 1) ↔ (a / 2 ^ w % 2 = 1 ∧ b / 2 ^ w % 2 = 1) := by
  have h := Nat.testBit_and a b w
  rw [Nat.testBit_eq_decide_div_mod_eq, Nat.testBit_eq_decide_div_mod_eq, Nat.testBit_eq_decide_div_mod_eq] at h
  constructor
  · intro e
    rw [decide_eq_true e] at h
    have h' := (Bool.and_eq_true _ _).mp h.symm
    exact ⟨of_decide_eq_true h'.1, of_decide_eq_true h'.2⟩
  · rintro ⟨e1, e2⟩
    rw [decide_eq_true e1, decide_eq_true e2] at h
    exact of_decide_eq_true h
theorem smN_mono {f f' : Nat → Nat} : ∀ n, (∀ i, i < n → f' i ≤ f i) → smN f' n ≤ smN f n
  | 0, _ => Nat.le_refl _
  | n + 1, h => Nat.add_le_add (smN_mono n (fun i hi => h i (by omega))) (h n (by omega))
theorem ix_mem {l : List Nat} {w : Nat} : ix l w < l.length ↔ ∃ i, i < l.length ∧ l.getD i 0 = w := by
  obtain ⟨h1, h2, h3, h4⟩ := zleast_spec (fun i => decide (l.getD i 0 = w)) l.length 0
  constructor
  · intro h
    exact ⟨ix l w, h, of_decide_eq_true (h4 (by rw [Nat.zero_add]; exact h))⟩
  · rintro ⟨i, hi, e⟩
    have hle : ix l w ≤ l.length := ix_le
    by_cases hx : ix l w < l.length
    · exact hx
    · have := h3 i (Nat.zero_le _) (by show i < ix l w; omega)
      rw [decide_eq_true e] at this; cases this
section AK
variable {N : Nat}
theorem shl01 : ∀ p, p < 31 → ((nI 0 <<< (nI p &&& 31) = nI 0) ∧ nI 1 <<< (nI p &&& 31) = bitW p) := by decide +kernel
theorem e_sayers {x c w : Nat} {g : ZS} {A : ZA} (hN : 10000 ≤ N) (hC : CJ x g A) (hA : AI A c) (hw : w < 8) (hS : ∀ p, p < an A → zgi g (x + 515) p = bitsN (sayA A (aB A p) (ame A p)) (min 8 (sayA A (aB A p) (ame A p)).length)) : f_X11_sayersOf N x (nI w) g = some (nI (mk (fun p => suN A p (0, w)) (an A))) := by
  have n6 := hA.1.1
  unfold f_X11_sayersOf
  have hl := loopA (body := fun s => f_X11_sayersOf_4 N x (nI w) s.1 s.2 g) (fun p acc => acc ||| (if suN A p (0, w) = true then bitW p else nI 0)) (an A) id (fun i y => y = nI (mk (fun p => suN A p (0, w)) i)) (a := nI 0) rfl (fun i y hi hy => ⟨?_, ?_⟩) (fun y hy => ?_) (N := N) (by omega)
  · refine hl.trans ?_
    have : ∀ n, n ≤ 6 → zfold (fun p acc => acc ||| (if suN A p (0, w) = true then bitW p else nI 0)) n (nI 0) = nI (mk (fun p => suN A p (0, w)) n) := fun n hn => by
      induction n with
      | zero => rfl
      | succ n ih =>
        show zfold _ n (nI 0) ||| _ = _
        rw [ih (by omega), mk_s]
        split
        · exact (or64 _ (mk_lt n (by omega)) n (by omega)).1
        · exact or_z
    rw [this _ n6]; rfl
  · show f_X11_sayersOf_4 N x (nI w) y (nI i) g = _
    unfold f_X11_sayersOf_4
    have h8 : (sayA A (aB A i) (ame A i)).length ≤ 8 := says_len
    have hlt := fun j hj => (sayA_lt (A := A) (b := aB A i) (me := ame A i) (j := j) hj).1
    obtain ⟨q1, q2⟩ := bN_e (l := (sayA A (aB A i) (ame A i))) (min 8 (sayA A (aB A i) (ame A i)).length) (fun j hj => hlt j (by omega))
    have hb := bN_bit (l := (sayA A (aB A i) (ame A i))) (w := w) (min 8 (sayA A (aB A i) (ame A i)).length)
    rw [p_rdR hC.1.s0, hC.1.r0_6, Option.bind_some, p_rdI hC.1.SL23.f.1, Option.bind_some, hC.2.2.2.2.2.1.1.1, if_neg (nI_ge hi (by omega)), p_rdR hC.1.s0, hC.1.r0_16, Option.bind_some, a20_6 hC.1.s515 (by omega), hS i hi, Option.bind_some, q1, bit_e (by omega) (by omega)]
    have hsu : (suN A i (0, w) = true) ↔ bN (sayA A (aB A i) (ame A i)) (min 8 (sayA A (aB A i) (ame A i)).length) / 2 ^ w % 2 = 1 := by
      rw [hb, Nat.min_eq_right h8]
      show decide (ix (sayA A (aB A i) (ame A i)) w < (sayA A (aB A i) (ame A i)).length) = true ↔ _
      rw [decide_eq_true_iff, ix_mem]
    by_cases e : suN A i (0, w) = true
    · rw [hsu.mp e, if_pos e, (shl01 i (by omega)).2, c_1, nI_add]
    · have : bN (sayA A (aB A i) (ame A i)) (min 8 (sayA A (aB A i) (ame A i)).length) / 2 ^ w % 2 = 0 := by rcases bit01 (k := bN (sayA A (aB A i) (ame A i)) (min 8 (sayA A (aB A i) (ame A i)).length)) (p := w) with h | h; exact h; exact absurd (hsu.mpr h) e
      rw [this, if_neg e, (shl01 i (by omega)).1, c_1, nI_add]
  · rw [hy, mk_s]
    show nI _ ||| (if suN A i (0, w) = true then bitW i else nI 0) = _
    split
    · exact (or64 _ (mk_lt i (by omega)) i (by omega)).1
    · exact or_z
  · show f_X11_sayersOf_4 N x (nI w) y (nI (an A)) g = _
    unfold f_X11_sayersOf_4
    rw [p_rdR hC.1.s0, hC.1.r0_6, Option.bind_some, p_rdI hC.1.SL23.f.1, Option.bind_some, hC.2.2.2.2.2.1.1.1, if_pos (nI_le (Nat.le_refl _) (by omega))]; rfl
def gM (f : Nat → Nat) : Nat → Nat
  | 0 => 0
  | n + 1 => if f n < f (gM f n) then n else gM f n
/-- how many fit, and how many of these say w -/
def akC (A : ZA) (p : Nat) : Bool := suK A p (aN A).length
def akW (A : ZA) (w : Nat) (n : Nat) : Nat := smN (fun p => if (akC A p && suN A p (0, w)) then 1 else 0) n
def akL (A : ZA) (w : Nat) : Nat := max (akW A w (an A)) (pc (mk (akC A) (an A)) - akW A w (an A))
theorem akW_le {A : ZA} {c w : Nat} (hA : AI A c) : akW A w (an A) ≤ pc (mk (akC A) (an A)) ∧ pc (mk (akC A) (an A)) ≤ 6 := by
  have n6 := hA.1.1
  have h := pc64 (mk_lt (C := akC A) (an A) n6)
  refine ⟨?_, by omega⟩
  rw [pc_bits (n := an A) (D := akC A) (by omega) (fun p => mk_bit (an A))]
  refine smN_mono _ (fun i hi => ?_)
  show (if (akC A i && suN A i (0, w)) = true then 1 else 0) ≤ if akC A i = true then 1 else 0
  cases akC A i
  · exact Nat.le_refl _
  · rw [if_pos (rfl : true = true)]; split <;> omega
theorem akMax {a b : Nat} (h : b ≤ a) (ha : a ≤ 6) : f_J9_max_7cf53 (nI b) (nI a - nI b) = some (nI (max b (a - b))) := by
  rw [mx, nI_sub h]
  by_cases e : b < a - b
  · rw [if_pos (nI_lt e (by omega)), Nat.max_eq_right (by omega)]
  · rw [if_neg (nI_nlt (by omega) (by omega)), Nat.max_eq_left (by omega)]
theorem k_ask (hN : 10000 ≤ N) : Call (fun x g => f_X11_ask N x g) (fun m g => f_X12_ask N m g) := call_q (fun x m c g A hC hA hc => by
  have n6 := hA.1.1
  have hft := ft_mk (A := A) (an A) n6
  have hj := mk_lt (C := akC A) (an A) n6
  have hft' : ftA A (an A) = nI (mk (akC A) (an A)) := hft
  have f6 : ∀ w, akL A w ≤ 6 := fun w => by have := akW_le (w := w) hA; unfold akL; omega
  by_cases h0 : mk (akC A) (an A) = 0
  · refine ⟨-2, aR A, hA.2.2.2.2.1, ?_, fun g' hR => ?_⟩
    · unfold QC f_X11_ask
      refine w_vs hC.1.1.s0 ((c_fitting hN hC.1 hA).bind (fun o ho => ?_))
      obtain ⟨y, g2⟩ := o
      obtain ⟨o1, J1, C1⟩ := ho
      dsimp only at o1 J1 C1 ⊢
      rw [o1, hft', if_pos (by rw [h0]; rfl), zW_some]
      exact ⟨rfl, J1.mono (fun a j z => by omega), hC.2.stay J1 (fun a j z => by omega)⟩
    · unfold QF f_X12_ask
      refine r_start hR hA (fun g1 J0 hR1 _ => ?_)
      refine w_vs hR1.1.1.s0 ((r_fitting hN hR1.1 hA).bind (fun o ho => ?_))
      obtain ⟨y, g2⟩ := o
      obtain ⟨o1, J2, R2⟩ := ho
      dsimp only at o1 J2 R2 ⊢
      rw [o1, hft', if_pos (by rw [h0]; rfl), zW_some]
      exact ⟨rfl, J0.trans (J2.mono (fun a j z => by omega)), hR1.2.keepM J2 (by omega) (fun j => by omega)⟩
  · obtain ⟨f, hf⟩ : ∃ f : Nat → Nat, f = akL A := ⟨_, rfl⟩
    have hfe : ∀ w, akL A w = f w := fun w => by rw [hf]
    have f6' : ∀ w, f w ≤ 6 := fun w => by rw [← hfe]; exact f6 w
    have hgs : ∀ i, gM f (i + 1) = if f i < f (gM f i) then i else gM f i := fun i => rfl
    have hg1 : gM f (0 + 1) = 0 := by rw [hgs]; split <;> rfl
    refine ⟨nI (gM f 8), [wL (f (gM f 8))], by simp, ?_, fun g' hR => ?_⟩
    · unfold QC f_X11_ask
      refine w_vs hC.1.1.s0 ((c_fitting hN hC.1 hA).bind (fun o ho => ?_))
      obtain ⟨y, g2⟩ := o
      obtain ⟨o1, J1, C1⟩ := ho
      dsimp only at o1 J1 C1 ⊢
      rw [o1, hft', if_neg (nI_ne0 (by omega) (by omega)), c_8]
      refine w_vs C1.1.s0 ((c_gather hN C1 hA (by omega)).bind (fun g3 h3 => ?_))
      obtain ⟨J3, C3, e3⟩ := h3
      refine w_eq (e_bc64 hj) ?_
      refine zW_for (fun i (s : Int32 × Int32 × Int32) => s.1 = (if i = 0 then -1 else nI (gM f i)) ∧ s.2.1 = (if i = 0 then 7 else nI (f (gM f i))) ∧ s.2.2 = nI i) 8 (fun i s hi hs => ?_) (fun s hs => ?_) (by omega) (Nat.zero_le _) ⟨rfl, rfl, rfl⟩
      · obtain ⟨y1, y2, y3⟩ := s
        obtain ⟨h1, h2, h3⟩ := hs
        dsimp only at h1 h2 h3
        subst h3
        show zW (f_X11_ask_32 N x _ _ y1 y2 (nI i) g3) _
        unfold f_X11_ask_32 f_X11_ask_77
        rw [c_8, if_neg (nI_ge hi (by omega))]
        refine w_vs C3.1.s0 (w_eq (e_sayers hN C3 hA hi e3) ?_)
        obtain ⟨q1, q2⟩ := and64 _ hj _ (mk_lt (C := fun p => suN A p (0, i)) (an A) n6)
        rw [q1]
        refine w_eq (e_bc64 q2) ?_
        have hpc : pc (mk (akC A) (an A) &&& mk (fun p => suN A p (0, i)) (an A)) = akW A i (an A) := pc_bits (n := an A) (D := fun p => akC A p && suN A p (0, i)) (by omega) (fun p => by
          rw [and_bit, mk_bit, mk_bit, Bool.and_eq_true]
          constructor
          · rintro ⟨⟨a1, a2⟩, a3, a4⟩; exact ⟨a1, a2, a4⟩
          · rintro ⟨a1, a2, a4⟩; exact ⟨⟨a1, a2⟩, a1, a4⟩)
        rw [hpc]
        obtain ⟨b1, b2⟩ := akW_le (w := i) hA
        refine w_eq (akMax b1 b2) ?_
        rw [show max (akW A i (an A)) (pc (mk (akC A) (an A)) - akW A i (an A)) = f i from hfe i]
        have f1 := f6' i
        have f2 := f6' (gM f i)
        by_cases e0 : i = 0
        · subst e0
          rw [if_pos rfl] at h1 h2
          rw [h2, if_neg (show ¬ (7 : Int32) ≤ nI (f 0) from nI_ge (b := 7) (by omega) (by omega)), zW_some, zI_inl, c_1, nI_add, hg1]
          exact ⟨rfl, rfl, rfl⟩
        · rw [if_neg e0] at h1 h2
          rw [h1, h2]
          by_cases e : f i < f (gM f i)
          · rw [if_neg (nI_ge e (by omega)), zW_some, zI_inl, c_1, nI_add, hgs, if_pos e]
            exact ⟨rfl, rfl, rfl⟩
          · rw [if_pos (nI_le (by omega) (by omega)), zW_some, zI_inl, c_1, nI_add, hgs, if_neg e]
            exact ⟨rfl, rfl, rfl⟩
      · obtain ⟨y1, y2, y3⟩ := s
        obtain ⟨h1, h2, h3⟩ := hs
        dsimp only at h1 h2 h3
        rw [if_neg (by omega)] at h1 h2
        subst h1 h2 h3
        show zW (f_X11_ask_32 N x _ _ (nI (gM f 8)) (nI (f (gM f 8))) (nI 8) g3) _
        unfold f_X11_ask_32
        rw [c_8, if_pos (nI_le (Nat.le_refl _) (by omega)), zW_map]
        refine c_only C3 hA (fun g4 J4 X4 C4 => ?_)
        rw [zW_some]
        exact ⟨rfl, ((J1.mono (fun a j z => by omega)).trans (J3.mono (fun a j z => by omega))).trans (J4.mono (fun a j z => by omega)), X4⟩
    · unfold QF f_X12_ask
      refine r_start hR hA (fun g1 J0 hR1 _ => ?_)
      refine w_vs hR1.1.1.s0 ((r_fitting hN hR1.1 hA).bind (fun o ho => ?_))
      obtain ⟨y, g2⟩ := o
      obtain ⟨o1, J2, R2⟩ := ho
      dsimp only at o1 J2 R2 ⊢
      rw [o1, hft', if_neg (nI_ne0 (by omega) (by omega))]
      refine zW_for (fun i (s : Int32 × Int32 × Int32 × ZS) => s.1 = (if i = 0 then -1 else nI (gM f i)) ∧ s.2.1 = (if i = 0 then 1000000 else nI (f (gM f i))) ∧ s.2.2.1 = nI i ∧ zM m (ScM m) g' s.2.2.2 ∧ RJ m s.2.2.2 A) 8 (fun i s hi hs => ?_) (fun s hs => ?_) (by omega) (Nat.zero_le _) ⟨rfl, rfl, rfl, J0.trans (J2.mono (fun a j z => by omega)), R2⟩
      · obtain ⟨y1, y2, y3, g3⟩ := s
        obtain ⟨h1, h2, h3, h4, h5⟩ := hs
        dsimp only at h1 h2 h3 h4 h5
        subst h3
        show zW (f_X12_ask_26 N m _ y1 y2 (nI i) g3) _
        unfold f_X12_ask_26
        rw [c_8, if_neg (nI_ge hi (by omega))]
        refine zW_for (fun p (s : Int32 × Int32 × ZS) => s.1 = nI (akW A i p) ∧ s.2.1 = nI p ∧ zM m (ScM m) g' s.2.2 ∧ RJ m s.2.2 A) (an A) (fun p s hp hs => ?_) (fun s hs => ?_) (by omega) (Nat.zero_le _) ⟨rfl, rfl, h4, h5⟩
        · obtain ⟨z1, z2, g4⟩ := s
          obtain ⟨k1, k2, k3, k4⟩ := hs
          dsimp only at k1 k2 k3 k4
          subst k1 k2
          have has : akW A i (p + 1) = akW A i p + if (akC A p && suN A p (0, i)) = true then 1 else 0 := rfl
          show zW (f_X12_ask_39 N m _ y1 y2 (nI i) (nI (akW A i p)) (nI p) g4) _
          unfold f_X12_ask_39 f_X12_ask_75 f_X12_ask_76
          refine w_rdI k4.1.s0 k4.2.2.2.2.2.2.1.1 ?_
          rw [if_neg (nI_ge hp (by omega)), e_has (by omega) (by omega), Option.bind_some]
          have hb := mk_bit (C := akC A) (w := p) (an A)
          cases hc1 : akC A p with
          | false =>
            rw [if_pos (bI_eq (decide_eq_false (fun h => by rw [(hb.mp h).2] at hc1; cases hc1))), zW_some, zI_inl, c_1, nI_add, has, hc1, Bool.false_and, if_neg Bool.false_ne_true]
            exact ⟨Int32.add_zero _, rfl, k3, k4⟩
          | true =>
            rw [if_neg (bI_ne (decide_eq_true (hb.mpr ⟨hp, hc1⟩)))]
            refine w_vs k4.1.s0 ((r_fits (k := 0) hN k4 hA hp (by omega) (show i ≤ 8 by omega)).bind (fun o ho => ?_))
            obtain ⟨z3, g5⟩ := o
            obtain ⟨o1, o2, o3⟩ := ho
            dsimp only at o1 o2 o3 ⊢
            have J5 := k3.trans (o2.mono (S' := ScM m) (fun a j z => by omega))
            cases hc2 : suN A p (0, i) with
            | false =>
              rw [hc2] at o1
              rw [if_pos (show z3 = 0 from o1), zW_some, zI_inl, c_1, nI_add, has, hc1, hc2, Bool.and_false, if_neg Bool.false_ne_true]
              exact ⟨Int32.add_zero _, rfl, J5, o3⟩
            | true =>
              rw [hc2] at o1
              rw [if_neg (show ¬ z3 = 0 by rw [o1]; decide), zW_some, zI_inl, c_1, nI_add, nI_add, has, hc1, hc2, Bool.and_true, if_pos rfl]
              exact ⟨rfl, rfl, J5, o3⟩
        · obtain ⟨z1, z2, g4⟩ := s
          obtain ⟨k1, k2, k3, k4⟩ := hs
          dsimp only at k1 k2 k3 k4
          subst k1 k2
          show zW (f_X12_ask_39 N m _ y1 y2 (nI i) (nI (akW A i (an A))) (nI (an A)) g4) _
          unfold f_X12_ask_39 f_X12_ask_114
          refine w_rdI k4.1.s0 k4.2.2.2.2.2.2.1.1 ?_
          rw [if_pos (nI_le (Nat.le_refl _) (by omega)), zW_map]
          refine w_eq (e_bc64 hj) ?_
          obtain ⟨b1, b2⟩ := akW_le (w := i) hA
          refine w_eq (akMax b1 b2) ?_
          rw [show max (akW A i (an A)) (pc (mk (akC A) (an A)) - akW A i (an A)) = f i from hfe i]
          have f1 := f6' i
          have f2 := f6' (gM f i)
          by_cases e0 : i = 0
          · subst e0
            rw [if_pos rfl] at h1 h2
            rw [h2, if_pos (show nI (f 0) < (1000000 : Int32) from nI_lt (b := 1000000) (by omega) (by omega)), zW_some, zI_inr, zI_inl, c_1, nI_add, hg1]
            exact ⟨rfl, rfl, rfl, k3, k4⟩
          · rw [if_neg e0] at h1 h2
            rw [h1, h2]
            by_cases e : f i < f (gM f i)
            · rw [if_pos (nI_lt e (by omega)), zW_some, zI_inr, zI_inl, c_1, nI_add, hgs, if_pos e]
              exact ⟨rfl, rfl, rfl, k3, k4⟩
            · rw [if_neg (nI_nlt (by omega) (by omega)), zW_some, zI_inr, zI_inl, c_1, nI_add, hgs, if_neg e]
              exact ⟨rfl, rfl, rfl, k3, k4⟩
      · obtain ⟨y1, y2, y3, g3⟩ := s
        obtain ⟨h1, h2, h3, h4, h5⟩ := hs
        dsimp only at h1 h2 h3 h4 h5
        rw [if_neg (by omega)] at h1 h2
        subst h1 h2 h3
        show zW (f_X12_ask_26 N m _ (nI (gM f 8)) (nI (f (gM f 8))) (nI 8) g3) _
        unfold f_X12_ask_26
        rw [c_8, if_pos (nI_le (Nat.le_refl _) (by omega)), zW_map]
        refine r_only h5 hA (fun g4 J4 W4 R4 => ?_)
        rw [zW_some]
        exact ⟨rfl, h4.trans ((J4.toM (m := m)).mono (fun a j z => by omega)), W4⟩)
end AK
