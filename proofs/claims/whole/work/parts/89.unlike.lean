/-! ===== unlike ===== -/
theorem smN_add {f f' : Nat → Nat} : ∀ n, smN (fun i => f i + f' i) n = smN f n + smN f' n
  | 0 => rfl
  | n + 1 => by
    show smN (fun i => f i + f' i) n + (f n + f' n) = smN f n + f n + (smN f' n + f' n)
    rw [smN_add n]; omega
theorem smN_0 : ∀ n, smN (fun _ => 0) n = 0
  | 0 => rfl
  | n + 1 => by show smN (fun _ => 0) n + 0 = 0; rw [smN_0 n]
theorem smN_swap {f : Nat → Nat → Nat} {k : Nat} : ∀ n, smN (fun i => smN (fun j => f i j) k) n = smN (fun j => smN (fun i => f i j) n) k
  | 0 => (smN_0 k).symm
  | n + 1 => by
    show smN (fun i => smN (fun j => f i j) k) n + smN (fun j => f n j) k = smN (fun j => smN (fun i => f i j) n + f n j) k
    rw [smN_swap n, smN_add k]
/-- the upper half of a table -/
def upS (E : Nat → Nat → Nat) (n : Nat) : Nat := smN (fun i => smN (fun j => if i < j then E i j else 0) n) n
theorem upS_2 {E : Nat → Nat → Nat} {n : Nat} (hs : ∀ i j, i < n → j < n → E i j = E j i) (h0 : ∀ i, i < n → E i i = 0) : smN (fun i => smN (fun j => E i j) n) n = 2 * upS E n := by
  have h1 : smN (fun i => smN (fun j => E i j) n) n = smN (fun i => smN (fun j => (if i < j then E i j else 0) + (if j < i then E i j else 0)) n) n := smN_congr n (fun i hi => smN_congr n (fun j hj => by
    by_cases e : i < j
    · rw [if_pos e, if_neg (by omega)]; rfl
    · rw [if_neg e]
      by_cases e2 : j < i
      · rw [if_pos e2, Nat.zero_add]
      · rw [if_neg e2, show j = i by omega, h0 i hi]))
  have h2 : smN (fun i => smN (fun j => if j < i then E i j else 0) n) n = upS E n := by
    rw [smN_swap]
    refine smN_congr n (fun i hi => smN_congr n (fun j hj => ?_))
    by_cases e : i < j
    · rw [if_pos e, if_pos e, hs i j hi hj]
    · rw [if_neg e, if_neg e]
  rw [h1]
  have h3 : smN (fun i => smN (fun j => (if i < j then E i j else 0) + (if j < i then E i j else 0)) n) n = smN (fun i => smN (fun j => if i < j then E i j else 0) n + smN (fun j => if j < i then E i j else 0) n) n := smN_congr n (fun i hi => smN_add n)
  rw [h3, smN_add, h2]
  unfold upS; omega
theorem ix_get {l : List Nat} (hne : ∀ i j, i < j → j < l.length → l.getD i 0 ≠ l.getD j 0) {i : Nat} (hi : i < l.length) : ix l (l.getD i 0) = i := by
  obtain ⟨h1, h2, h3, h4⟩ := zleast_spec (fun j => decide (l.getD j 0 = l.getD i 0)) l.length 0
  have hx : ix l (l.getD i 0) < l.length := ix_mem.mpr ⟨i, hi, rfl⟩
  have he : l.getD (ix l (l.getD i 0)) 0 = l.getD i 0 := of_decide_eq_true (h4 (by rw [Nat.zero_add]; exact hx))
  by_cases e1 : ix l (l.getD i 0) < i
  · exact absurd he (hne _ _ e1 hi)
  · by_cases e2 : i < ix l (l.getD i 0)
    · exact absurd he.symm (hne _ _ e2 hx)
    · omega
theorem ix_at {l : List Nat} {w : Nat} (h : ix l w < l.length) : l.getD (ix l w) 0 = w := by
  obtain ⟨h1, h2, h3, h4⟩ := zleast_spec (fun j => decide (l.getD j 0 = w)) l.length 0
  exact of_decide_eq_true (h4 (by rw [Nat.zero_add]; exact h))
theorem ix_inj {l : List Nat} {v w : Nat} (h : ix l v < l.length) (h' : ix l w < l.length) (e : ix l v = ix l w) : v = w := by rw [← ix_at h, ← ix_at h', e]
/-- both say both, in another order -/
abbrev mB (l l' : List Nat) (v : Nat) : Prop := ix l v < l.length ∧ ix l' v < l'.length
def dU (l l' : List Nat) (v w : Nat) : Nat := if (mB l l' v ∧ mB l l' w) ∧ ¬ ((ix l v < ix l w) ↔ (ix l' v < ix l' w)) then 1 else 0
theorem dU_s {l l' : List Nat} {v w : Nat} : dU l l' v w = dU l l' w v := by
  by_cases hvw : v = w
  · rw [hvw]
  · unfold dU
    by_cases hm : mB l l' v ∧ mB l l' w
    · have n1 : ix l v ≠ ix l w := fun e => hvw (ix_inj hm.1.1 hm.2.1 e)
      have n2 : ix l' v ≠ ix l' w := fun e => hvw (ix_inj hm.1.2 hm.2.2 e)
      have : ((mB l l' v ∧ mB l l' w) ∧ ¬ ((ix l v < ix l w) ↔ (ix l' v < ix l' w))) ↔ ((mB l l' w ∧ mB l l' v) ∧ ¬ ((ix l w < ix l v) ↔ (ix l' w < ix l' v))) := by
        constructor
        · rintro ⟨_, h⟩; exact ⟨⟨hm.2, hm.1⟩, fun h2 => h (by omega)⟩
        · rintro ⟨_, h⟩; exact ⟨hm, fun h2 => h (by omega)⟩
      by_cases e : ((mB l l' v ∧ mB l l' w) ∧ ¬ ((ix l v < ix l w) ↔ (ix l' v < ix l' w)))
      · rw [if_pos e, if_pos (this.mp e)]
      · rw [if_neg e, if_neg (fun h => e (this.mpr h))]
    · rw [if_neg (fun h => hm h.1), if_neg (fun h => hm ⟨h.1.2, h.1.1⟩)]
theorem dU_0 {l l' : List Nat} {v : Nat} : dU l l' v v = 0 := if_neg (fun h => h.2 (by constructor <;> intro h <;> omega))
theorem dU_n {l l' : List Nat} {v w : Nat} (h : ¬ mB l l' v ∨ ¬ mB l l' w) : dU l l' v w = 0 := if_neg (fun x => by
  rcases h with h | h
  · exact h x.1.1
  · exact h x.1.2)
theorem dU_le {l l' : List Nat} {v w : Nat} : dU l l' v w ≤ 1 := by unfold dU; split <;> omega
/-- summed over the words of a row, or over all words -/
theorem sum_mem {l : List Nat} {W : Nat → Nat} (h8 : ∀ i, i < l.length → l.getD i 0 < 8) (hne : ∀ i j, i < j → j < l.length → l.getD i 0 ≠ l.getD j 0) (hW : ∀ w, ¬ ix l w < l.length → W w = 0) : smN (fun i => W (l.getD i 0)) l.length = smN W 8 := by
  rw [← sum_words l.length (Nat.le_refl _) h8 hne]
  refine smN_congr 8 (fun w _ => ?_)
  by_cases e : bN l l.length / 2 ^ w % 2 = 1
  · rw [if_pos e]
  · rw [if_neg e, hW w (fun h => e ((bN_bit l.length).mpr (ix_mem.mp h)))]
theorem pairs_eq {l l' : List Nat} (h8 : ∀ i, i < l.length → l.getD i 0 < 8) (hne : ∀ i j, i < j → j < l.length → l.getD i 0 ≠ l.getD j 0) : upS (fun i j => dU l l' (l.getD i 0) (l.getD j 0)) l.length = upS (dU l l') 8 := by
  have h1 := upS_2 (E := fun i j => dU l l' (l.getD i 0) (l.getD j 0)) (n := l.length) (fun i j _ _ => dU_s) (fun i _ => dU_0)
  have h2 := upS_2 (E := dU l l') (n := 8) (fun i j _ _ => dU_s) (fun i _ => dU_0)
  have h3 : smN (fun i => smN (fun j => dU l l' (l.getD i 0) (l.getD j 0)) l.length) l.length = smN (fun i => smN (fun j => dU l l' i j) 8) 8 := by
    have : smN (fun i => smN (fun j => dU l l' (l.getD i 0) (l.getD j 0)) l.length) l.length = smN (fun i => (fun v => smN (fun w => dU l l' v w) 8) (l.getD i 0)) l.length := smN_congr _ (fun i hi => (sum_mem (W := fun w => dU l l' (l.getD i 0) w) h8 hne (fun w hw => dU_n (Or.inr (fun h => hw h.1)))))
    rw [this, sum_mem (W := fun v => smN (fun w => dU l l' v w) 8) h8 hne (fun v hv => by
      show smN (fun w => dU l l' v w) 8 = 0
      rw [← smN_0 8]
      exact smN_congr 8 (fun w _ => dU_n (Or.inl (fun h => hv h.1))))]
  have h4 : 2 * upS (fun i j => dU l l' (l.getD i 0) (l.getD j 0)) l.length = 2 * upS (dU l l') 8 := by
    rw [← h1, ← h2]; exact h3
  omega
def bothN (l l' : List Nat) (n : Nat) : Nat := smN (fun i => if ix l' (l.getD i 0) < l'.length then 1 else 0) n
theorem nI_and {a b : Nat} : nI a &&& nI b = nI (a &&& b) := by
  refine Int32.toBitVec_inj.mp ?_
  show BitVec.ofNat 32 a &&& BitVec.ofNat 32 b = BitVec.ofNat 32 (a &&& b)
  exact BitVec.ofNat_and.symm
theorem e_bc256 {k : Nat} (h : k < 256) : f_J6_bitCount_0f7a4 (nI k) = some (nI (pc k)) := co_dec (N := 256) (P := fun k => f_J6_bitCount_0f7a4 (nI k) = some (nI (pc k))) (by decide +kernel) h
theorem two_bits : ∀ k, k < 256 → ∀ v, v < 8 → ∀ w, w < 8 → ((((nI k >>> (nI v &&& 31)) &&& (nI k >>> (nI w &&& 31))) &&& (1 : Int32) = 0) ↔ ¬ (k / 2 ^ v % 2 = 1 ∧ k / 2 ^ w % 2 = 1)) := by decide +kernel
section UN
variable {N : Nat}
theorem e_pair11 {x c : Nat} {g : ZS} {A : ZA} {v u : Int32} (hC : CJ x g A) (hA : AI A c) : f_X11_isPair x v u g = some (bI (rb v 0 (an A) && rb u 0 (an A) && decide (v ≠ u))) := by
  unfold f_X11_isPair f_X11_isPair_25 f_X11_isPair_26
  rw [p_vs hC.1.s0, e_ip11 hC hA, Option.bind_some]
  cases rb v 0 (an A) with
  | false => rw [if_pos (bI_eq rfl)]; rfl
  | true =>
    rw [if_neg (bI_ne rfl), p_vs hC.1.s0, e_ip11 hC hA, Option.bind_some]
    cases rb u 0 (an A) with
    | false => rw [if_pos (bI_eq rfl)]; rfl
    | true =>
      rw [if_neg (bI_ne rfl)]
      by_cases e : v = u
      · rw [if_pos e, decide_eq_false (fun h => h e)]; rfl
      · rw [if_neg e, decide_eq_true e]; rfl
theorem e_two12 {m c : Nat} {g : ZS} {A : ZA} {v u : Int32} (hR : RJ m g A) (hA : AI A c) : f_X12_areTwo m v u g = some (bI (rb v 0 (an A) && rb u 0 (an A) && decide (v ≠ u))) := by
  unfold f_X12_areTwo f_X12_areTwo_25 f_X12_areTwo_26
  rw [p_vs hR.1.s0, e_ip hR hA, Option.bind_some]
  cases rb v 0 (an A) with
  | false => rw [if_pos (bI_eq rfl)]; rfl
  | true =>
    rw [if_neg (bI_ne rfl), p_vs hR.1.s0, e_ip hR hA, Option.bind_some]
    cases rb u 0 (an A) with
    | false => rw [if_pos (bI_eq rfl)]; rfl
    | true =>
      rw [if_neg (bI_ne rfl)]
      by_cases e : v = u
      · rw [if_pos e, decide_eq_false (fun h => h e)]; rfl
      · rw [if_neg e, decide_eq_true e]; rfl
theorem pair_t {v u : Int32} {n : Nat} (h : (rb v 0 n && rb u 0 n && decide (v ≠ u)) = true) (hn : n ≤ 2 ^ 31) : ∃ p q, p < n ∧ q < n ∧ v = nI p ∧ u = nI q := by
  have h1 := (Bool.and_eq_true _ _).mp h
  have h2 := (Bool.and_eq_true _ _).mp h1.1
  obtain ⟨p, -, hp, e1⟩ := rb_t h2.1 hn
  obtain ⟨q, -, hq, e2⟩ := rb_t h2.2 hn
  exact ⟨p, q, hp, hq, e1, e2⟩
theorem c_both {x c p q : Nat} {g : ZS} {A : ZA} (hN : 10000 ≤ N) (hC : CJ x g A) (hA : AI A c) (hp : p < an A) (hq : q < an A) : zW (f_X11_followBoth N x (nI p) (nI q) g) (fun g' => zJ (fun a j => SFc x (x + 480) a j ∨ SFc x (x + 493) a j) g g' ∧ TS g' (x + 480) (sayA A (aB A p) (ame A p)) ∧ TS g' (x + 493) (sayA A (aB A q) (ame A q)) ∧ CJ x g' A) := by
  unfold f_X11_followBoth
  refine c_say hN hC hA hp (Or.inl ⟨rfl, rfl⟩) (fun g1 J1 T1 C1 => ?_)
  refine c_say hN C1 hA hq (Or.inr ⟨rfl, rfl⟩) (fun g2 J2 T2 C2 => ?_)
  rw [zW_some]
  exact ⟨(J1.mono (fun a j z => Or.inl z)).trans (J2.mono (fun a j z => Or.inr z)), T1.keep J2 (by omega) (fun j => by omega), T2, C2⟩
theorem r_both {m c p q : Nat} {g : ZS} {A : ZA} {β : Type} {Q : β → Prop} {k : Int32 × ZS → Int32 × ZS → Option β} (hN : 10000 ≤ N) (hR : RJ m g A) (hA : AI A c) (hp : p < an A) (hq : q < an A) (hk : ∀ g1 g', zM m (fun a j => SY m (m + 12) a j ∨ a = m + 13) g g' → (∀ j, j < (sayA A (aB A p) (ame A p)).length → zgi g' (m + 12) j = nI ((sayA A (aB A p) (ame A p)).getD j 0)) → (∀ j, j < (sayA A (aB A q) (ame A q)).length → zgi g' (m + 13) j = nI ((sayA A (aB A q) (ame A q)).getD j 0)) → RJ m g' A → zW (k (nI (sayA A (aB A p) (ame A p)).length, g1) (nI (sayA A (aB A q) (ame A q)).length, g')) Q) : zW ((zrdR g m 12 0).bind fun v3 => (zrdR g m 12 22).bind fun v4 => zvs g m 12 <| (f_X12_laySays N m v3 (nI p) v4 g).bind fun r5 => (zrdR r5.2 m 12 0).bind fun v6 => (zrdR r5.2 m 12 23).bind fun v7 => zvs r5.2 m 12 <| (f_X12_laySays N m v6 (nI q) v7 r5.2).bind fun r8 => k r5 r8) Q := by
  refine w_rdR hR.1.s0 hR.1.r0 (w_rdR hR.1.s0 hR.1.r22 ?_)
  refine r_say hN hR hA (Or.inl rfl) hp (fun g2 J2 T2 R2 => ?_)
  dsimp only
  refine w_rdR R2.1.s0 R2.1.r0 (w_rdR R2.1.s0 R2.1.r23 ?_)
  refine r_say hN R2 hA (Or.inr rfl) hq (fun g3 J3 T3 R3 => ?_)
  exact hk g2 g3 ((J2.mono (fun a j z => by omega)).trans (J3.mono (fun a j z => by omega))) (fun j hj => by rw [J3.gi (by omega)]; exact T2 j hj) T3 R3
theorem e_spot {g : ZS} {t w : Nat} {l : List Nat} (hN : 10000 ≤ N) (hs : zsh g t = some (20, 8)) (h8 : l.length ≤ 8) (h : ∀ j, j < l.length → zgi g t j = nI (l.getD j 0)) (hl : ∀ j, j < l.length → l.getD j 0 < 8) (hw : w < 9) : f_X12_spotOf N t (nI l.length) (nI w) g = some (if ix l w < l.length then nI (ix l w) else -nI 1) := by
  unfold f_X12_spotOf
  refine loopL (body := fun s => f_X12_spotOf_2 N t (nI l.length) (nI w) s g) (fun i => decide (l.getD i 0 = w)) (fun i => nI i) (-nI 1) l.length (fun i hi => ?_) ?_ (by omega)
  · have e1 := h i hi
    have e2 := hl i hi
    show f_X12_spotOf_2 N t (nI l.length) (nI w) (nI i) g = _
    unfold f_X12_spotOf_2
    rw [if_neg (nI_ge hi (by omega)), a20_8 hs (by omega), e1, Option.bind_some]
    by_cases e : l.getD i 0 = w
    · rw [if_pos (by rw [e]), decide_eq_true e]; rfl
    · rw [if_neg (fun h => e ((nI_eq (by omega) (by omega)).mp h)), decide_eq_false e, c_1, nI_add]; rfl
  · show f_X12_spotOf_2 N t (nI l.length) (nI w) (nI l.length) g = _
    unfold f_X12_spotOf_2
    rw [if_pos (nI_le (Nat.le_refl _) (by omega))]; rfl
theorem e_ahead {g : ZS} {T v w : Nat} {l : List Nat} (hN : 10000 ≤ N) (hT : TL (zh g) T) (h : TS g T l) (hv : v < 8) (hw : w < 8) (h1 : ix l v < l.length) (h2 : ix l w < l.length) : f_X10_isAhead N T (nI v) (nI w) g = some (bI (decide (ix l v < ix l w))) := by
  have hl := h.2.1
  unfold f_X10_isAhead f_X10_isAhead_18
  rw [p_vs hT.f.1, e_placeOf hN hT h (by omega), Option.bind_some, p_vs hT.f.1, e_placeOf hN hT h (by omega), Option.bind_some, if_pos h1, if_pos h2]
  by_cases e : ix l v < ix l w
  · rw [if_neg (nI_ge e (by omega)), decide_eq_true e]; rfl
  · rw [if_pos (nI_le (by omega) (by omega)), decide_eq_false e]; rfl
theorem k_unlike (hN : 10000 ≤ N) (v u : Int32) : Call (fun x g => f_X11_unlike N x v u g) (fun m g => f_X12_unlike N m v u g) := call_q (fun x m c g A hC hA hc => by
  have n6 := hA.1.1
  cases hvu : (rb v 0 (an A) && rb u 0 (an A) && decide (v ≠ u)) with
  | false =>
    refine ⟨-1, aR A, hA.2.2.2.2.1, ?_, fun g' hR => ?_⟩
    · unfold QC f_X11_unlike
      refine w_vs hC.1.1.s0 (w_eq (e_pair11 hC.1 hA) ?_)
      rw [if_pos (bI_eq hvu), zW_some]
      exact ⟨rfl, zJ.rfl, hC.2⟩
    · unfold QF f_X12_unlike
      refine r_start hR hA (fun g1 J0 hR1 _ => ?_)
      refine w_vs hR1.1.1.s0 (w_eq (e_two12 hR1.1 hA) ?_)
      rw [if_pos (bI_eq hvu), zW_some]
      exact ⟨rfl, J0, hR1.2⟩
  | true =>
    obtain ⟨p, q, hp, hq, rfl, rfl⟩ := pair_t hvu (by omega)
    have ha8 : (sayA A (aB A p) (ame A p)).length ≤ 8 := says_len
    have hb8 : (sayA A (aB A q) (ame A q)).length ≤ 8 := says_len
    have hat := fun j hj => (sayA_lt (A := A) (b := aB A p) (me := ame A p) (j := j) hj).1
    have hbt := fun j hj => (sayA_lt (A := A) (b := aB A q) (me := ame A q) (j := j) hj).1
    have han : ∀ i j, i < j → j < (sayA A (aB A p) (ame A p)).length → (sayA A (aB A p) (ame A p)).getD i 0 ≠ (sayA A (aB A p) (ame A p)).getD j 0 := fun i j hij hj => sayA_ne hij hj
    refine ⟨nI (upS (dU (sayA A (aB A p) (ame A p)) (sayA A (aB A q) (ame A q))) 8), [wL (bothN (sayA A (aB A p) (ame A p)) (sayA A (aB A q) (ame A q)) (sayA A (aB A p) (ame A p)).length)], by simp, ?_, fun g' hR => ?_⟩
    · unfold QC f_X11_unlike
      refine w_vs hC.1.1.s0 (w_eq (e_pair11 hC.1 hA) ?_)
      rw [if_neg (bI_ne hvu), c_8]
      refine w_vs hC.1.1.s0 ((c_both hN hC.1 hA hp hq).bind (fun g1 h1 => ?_))
      obtain ⟨J1, T1, T2, C1⟩ := h1
      refine w_rdR C1.1.s0 C1.1.r0_12 (w_vs C1.1.TL480.f.1 (w_eq (e_bits hN C1.1.TL480 T1 (by omega)) ?_))
      refine w_rdR C1.1.s0 C1.1.r0_13 (w_vs C1.1.TL493.f.1 (w_eq (e_bits hN C1.1.TL493 T2 (by omega)) ?_))
      generalize hla : sayA A (aB A p) (ame A p) = l at *
      generalize hlb : sayA A (aB A q) (ame A q) = l' at *
      rw [Nat.min_eq_right ha8, Nat.min_eq_right hb8]
      obtain ⟨q1, q2⟩ := bN_e (l := l) l.length hat
      obtain ⟨q3, q4⟩ := bN_e (l := l') l'.length hbt
      rw [q1, q3, nI_and]
      have hK : bN l l.length &&& bN l' l'.length < 256 := Nat.lt_of_le_of_lt Nat.and_le_left q2
      have hbit : ∀ w, ((bN l l.length &&& bN l' l'.length) / 2 ^ w % 2 = 1) ↔ mB l l' w := fun w => by
        rw [and_bit, bN_bit, bN_bit, ← ix_mem, ← ix_mem]
      obtain ⟨K, hKd⟩ : ∃ K, K = bN l l.length &&& bN l' l'.length := ⟨_, rfl⟩
      rw [← hKd] at hK hbit ⊢
      have hpcK : pc K = bothN l l' l.length := by
        rw [pc_sm, smN_cut (n := 8) (fun i hi => by
          have : ¬ K / 2 ^ i % 2 = 1 := fun h => by
            have hm := (hbit i).mp h
            have := ix_at hm.1
            have := hat _ hm.1
            omega
          omega) 12 (by omega)]
        unfold bothN
        rw [sum_mem (W := fun w => K / 2 ^ w % 2) hat han (fun w hw => by
          have : ¬ K / 2 ^ w % 2 = 1 := fun h => hw ((hbit w).mp h).1
          show K / 2 ^ w % 2 = 0
          omega) |>.symm]
        refine smN_congr _ (fun i hi => ?_)
        have hb := hbit (l.getD i 0)
        have hi' : ix l (l.getD i 0) < l.length := ix_mem.mpr ⟨i, hi, rfl⟩
        by_cases e : ix l' (l.getD i 0) < l'.length
        · rw [if_pos e]; exact hb.mpr ⟨hi', e⟩
        · rw [if_neg e]
          have : ¬ K / 2 ^ (l.getD i 0) % 2 = 1 := fun h => e (hb.mp h).2
          omega
      refine zW_for (fun i (s : Int32 × Int32) => s.1 = nI (smN (fun i => smN (fun j => if i < j then dU l l' i j else 0) 8) i) ∧ s.2 = nI i) 8 (fun i s hi hs => ?_) (fun s hs => ?_) (by omega) (Nat.zero_le _) ⟨rfl, rfl⟩
      · obtain ⟨y1, y2⟩ := s
        obtain ⟨h1, h2⟩ := hs
        dsimp only at h1 h2
        subst h1 h2
        obtain ⟨B, hB⟩ : ∃ B, B = smN (fun i => smN (fun j => if i < j then dU l l' i j else 0) 8) i := ⟨_, rfl⟩
        rw [← hB]
        have hBs : smN (fun i => smN (fun j => if i < j then dU l l' i j else 0) 8) (i + 1) = B + smN (fun j => if i < j then dU l l' i j else 0) 8 := by rw [hB]; rfl
        show zW (f_X11_unlike_43 N x (nI K) (nI B) (nI i) g1) _
        unfold f_X11_unlike_43
        rw [c_8, if_neg (nI_ge hi (by omega)), c_1, nI_add]
        have hz : smN (fun j => if i < j then dU l l' i j else 0) (i + 1) = 0 := (smN_congr _ (fun j hj => if_neg (by omega))).trans (smN_0 _)
        refine zW_for (fun j (s : Int32 × Int32) => s.1 = nI (B + smN (fun j => if i < j then dU l l' i j else 0) j) ∧ s.2 = nI j ∧ i < j) 8 (fun j s hj hs => ?_) (fun s hs => ?_) (by omega) (show i + 1 ≤ 8 by omega) ⟨by rw [hz]; rfl, rfl, by omega⟩
        · obtain ⟨z1, z2⟩ := s
          obtain ⟨k1, k2, k3⟩ := hs
          dsimp only at k1 k2
          subst k1 k2
          have hss : smN (fun j => if i < j then dU l l' i j else 0) (j + 1) = smN (fun j => if i < j then dU l l' i j else 0) j + dU l l' i j := by
            show _ + (if i < j then dU l l' i j else 0) = _
            rw [if_pos k3]
          show zW (f_X11_unlike_56 N x (nI K) _ (nI i) (nI j) g1) _
          unfold f_X11_unlike_56 f_X11_unlike_82 f_X11_unlike_117
          rw [c_8, if_neg (nI_ge hj (by omega))]
          have tb := two_bits K hK i hi j hj
          by_cases hm : mB l l' i ∧ mB l l' j
          · rw [if_neg (fun h => tb.mp h ⟨(hbit i).mpr hm.1, (hbit j).mpr hm.2⟩), if_neg (show ¬ (1 : Int32) = 0 by decide)]
            refine w_rdR C1.1.s0 C1.1.r0_12 (w_vs C1.1.TL480.f.1 (w_eq (e_ahead hN C1.1.TL480 T1 hi hj hm.1.1 hm.2.1) ?_))
            refine w_rdR C1.1.s0 C1.1.r0_13 (w_vs C1.1.TL493.f.1 (w_eq (e_ahead hN C1.1.TL493 T2 hi hj hm.1.2 hm.2.2) ?_))
            by_cases e : (ix l i < ix l j) ↔ (ix l' i < ix l' j)
            · rw [if_pos (by rw [decide_eq_decide.mpr e]), zW_some, zI_inl, hss, c_1, nI_add]
              refine ⟨?_, rfl, by omega⟩
              unfold dU
              rw [if_neg (fun h => h.2 e)]; rfl
            · rw [if_neg (fun h => e (by
                have h' : decide (ix l i < ix l j) = decide (ix l' i < ix l' j) := by
                  cases h1 : decide (ix l i < ix l j) <;> cases h2 : decide (ix l' i < ix l' j) <;> rw [h1, h2] at h <;> first | rfl | exact absurd h (by decide)
                exact decide_eq_decide.mp h')), zW_some, zI_inl, hss, c_1, nI_add, nI_add]
              refine ⟨?_, rfl, by omega⟩
              unfold dU
              rw [if_pos ⟨hm, e⟩, Nat.add_assoc]
          · rw [if_pos (tb.mpr (fun h => hm ⟨(hbit i).mp h.1, (hbit j).mp h.2⟩)), if_pos (show (0 : Int32) = 0 from rfl), zW_some, zI_inl, hss, c_1, nI_add]
            refine ⟨?_, rfl, by omega⟩
            unfold dU
            rw [if_neg (fun h => hm h.1)]; rfl
        · obtain ⟨z1, z2⟩ := s
          obtain ⟨k1, k2, k3⟩ := hs
          dsimp only at k1 k2
          subst k1 k2
          show zW (f_X11_unlike_56 N x (nI K) _ (nI i) (nI 8) g1) _
          unfold f_X11_unlike_56
          rw [c_8, if_pos (nI_le (Nat.le_refl _) (by omega)), Option.map_some, zW_some, zI_inr, zI_inl, c_1, nI_add, hBs]
          exact ⟨rfl, rfl⟩
      · obtain ⟨y1, y2⟩ := s
        obtain ⟨h1, h2⟩ := hs
        dsimp only at h1 h2
        subst h1 h2
        show zW (f_X11_unlike_43 N x (nI K) (nI (upS (dU l l') 8)) (nI 8) g1) _
        unfold f_X11_unlike_43
        rw [c_8, if_pos (nI_le (Nat.le_refl _) (by omega)), zW_map]
        refine w_rdR C1.1.s0 C1.1.r0_1 (w_eq (e_bc256 hK) (w_vs C1.1.s3 ?_))
        rw [hpcK]
        refine (s_only ⟨C1.1.s3, C1.1.s4, C1.1.r3_0⟩).bind (fun g3 h3 => ?_)
        rw [zW_some, zI_inr]
        exact ⟨rfl, (J1.mono (fun a j z => by omega)).trans (h3.1.mono (fun a j z => by omega)), h3.2⟩
    · unfold QF f_X12_unlike
      refine r_start hR hA (fun g1 J0 hR1 _ => ?_)
      refine w_vs hR1.1.1.s0 (w_eq (e_two12 hR1.1 hA) ?_)
      rw [if_neg (bI_ne hvu)]
      refine r_both hN hR1.1 hA hp hq (fun g2 g3 J3 T1 T2 R3 => ?_)
      dsimp only
      generalize hla : sayA A (aB A p) (ame A p) = l at *
      generalize hlb : sayA A (aB A q) (ame A q) = l' at *
      have hpe := pairs_eq (l' := l') hat han
      rw [← hpe]
      refine zW_for (fun i (s : Int32 × Int32 × Int32) => s.1 = nI (bothN l l' i) ∧ s.2.1 = nI (smN (fun i => smN (fun j => if i < j then dU l l' (l.getD i 0) (l.getD j 0) else 0) l.length) i) ∧ s.2.2 = nI i) l.length (fun i s hi hs => ?_) (fun s hs => ?_) (by omega) (Nat.zero_le _) ⟨rfl, rfl, rfl⟩
      · obtain ⟨y1, y2, y3⟩ := s
        obtain ⟨h1, h2, h3⟩ := hs
        dsimp only at h1 h2 h3
        subst h1 h2 h3
        obtain ⟨B, hB⟩ : ∃ B, B = smN (fun i => smN (fun j => if i < j then dU l l' (l.getD i 0) (l.getD j 0) else 0) l.length) i := ⟨_, rfl⟩
        rw [← hB]
        have hBs : smN (fun i => smN (fun j => if i < j then dU l l' (l.getD i 0) (l.getD j 0) else 0) l.length) (i + 1) = B + smN (fun j => if i < j then dU l l' (l.getD i 0) (l.getD j 0) else 0) l.length := by rw [hB]; rfl
        have hbs : bothN l l' (i + 1) = bothN l l' i + (if ix l' (l.getD i 0) < l'.length then 1 else 0) := rfl
        have hai : ix l (l.getD i 0) < l.length := ix_mem.mpr ⟨i, hi, rfl⟩
        have hgi := hat i hi
        show zW (f_X12_unlike_54 N m (nI l.length) (nI l'.length) (nI (bothN l l' i)) (nI B) (nI i) g3) _
        unfold f_X12_unlike_54 f_X12_unlike_149
        rw [if_neg (nI_ge hi (by omega))]
        refine w_rdR R3.1.s0 R3.1.r23 (w_rdR R3.1.s0 R3.1.r22 ?_)
        rw [a20_8 R3.1.s12 (by omega), T1 i hi, Option.bind_some]
        refine w_eq (e_spot hN R3.1.s13 hb8 T2 hbt (by omega)) ?_
        by_cases e : ix l' (l.getD i 0) < l'.length
        · rw [if_pos e, if_neg (show ¬ nI (ix l' (l.getD i 0)) = -1 from fun h => (neg1_ne (by omega)).mp h), c_1, nI_add, nI_add]
          have hz : smN (fun j => if i < j then dU l l' (l.getD i 0) (l.getD j 0) else 0) (i + 1) = 0 := (smN_congr _ (fun j hj => if_neg (by omega))).trans (smN_0 _)
          refine zW_for (fun j (s : Int32 × Int32) => s.1 = nI (B + smN (fun j => if i < j then dU l l' (l.getD i 0) (l.getD j 0) else 0) j) ∧ s.2 = nI j ∧ i < j) l.length (fun j s hj hs => ?_) (fun s hs => ?_) (by omega) (show i + 1 ≤ l.length by omega) ⟨by rw [hz]; rfl, rfl, by omega⟩
          · obtain ⟨z1, z2⟩ := s
            obtain ⟨k1, k2, k3⟩ := hs
            dsimp only at k1 k2
            subst k1 k2
            have hss : smN (fun j => if i < j then dU l l' (l.getD i 0) (l.getD j 0) else 0) (j + 1) = smN (fun j => if i < j then dU l l' (l.getD i 0) (l.getD j 0) else 0) j + dU l l' (l.getD i 0) (l.getD j 0) := by
              show _ + (if i < j then dU l l' (l.getD i 0) (l.getD j 0) else 0) = _
              rw [if_pos k3]
            have haj : ix l (l.getD j 0) < l.length := ix_mem.mpr ⟨j, hj, rfl⟩
            have hgj := hat j hj
            show zW (f_X12_unlike_96 N m (nI l.length) (nI l'.length) (nI (bothN l l' i + 1)) _ (nI i) (nI (ix l' (l.getD i 0))) (nI j) g3) _
            unfold f_X12_unlike_96 f_X12_unlike_139 f_X12_unlike_140
            rw [if_neg (nI_ge hj (by omega))]
            refine w_rdR R3.1.s0 R3.1.r23 (w_rdR R3.1.s0 R3.1.r22 ?_)
            rw [a20_8 R3.1.s12 (by omega), T1 j hj, Option.bind_some]
            refine w_eq (e_spot hN R3.1.s13 hb8 T2 hbt (by omega)) ?_
            by_cases e2 : ix l' (l.getD j 0) < l'.length
            · rw [if_pos e2, if_neg (show ¬ nI (ix l' (l.getD j 0)) = -1 from fun h => (neg1_ne (by omega)).mp h)]
              have hij : ix l (l.getD i 0) < ix l (l.getD j 0) := by rw [ix_get han hi, ix_get han hj]; exact k3
              have hne : ix l' (l.getD i 0) ≠ ix l' (l.getD j 0) := fun h => han i j k3 hj (ix_inj e e2 h)
              by_cases e3 : ix l' (l.getD i 0) ≤ ix l' (l.getD j 0)
              · rw [if_pos (nI_le e3 (by omega)), zW_some, zI_inl, hss, c_1, nI_add]
                refine ⟨?_, rfl, by omega⟩
                unfold dU
                rw [if_neg (fun h => h.2 ⟨fun _ => by omega, fun _ => hij⟩)]
                exact Int32.add_zero _
              · rw [if_neg (nI_ge (by omega) (by omega)), zW_some, zI_inl, hss, c_1, nI_add, nI_add]
                refine ⟨?_, rfl, by omega⟩
                unfold dU
                rw [if_pos ⟨⟨⟨hai, e⟩, haj, e2⟩, fun h => by have := h.mp hij; omega⟩, Nat.add_assoc]
            · rw [if_neg e2, if_pos (show -nI 1 = -1 from rfl), zW_some, zI_inl, hss, c_1, nI_add]
              refine ⟨?_, rfl, by omega⟩
              rw [dU_n (Or.inr (fun h => e2 h.2))]
              exact Int32.add_zero _
          · obtain ⟨z1, z2⟩ := s
            obtain ⟨k1, k2, k3⟩ := hs
            dsimp only at k1 k2
            subst k1 k2
            show zW (f_X12_unlike_96 N m (nI l.length) (nI l'.length) (nI (bothN l l' i + 1)) _ (nI i) (nI (ix l' (l.getD i 0))) (nI l.length) g3) _
            unfold f_X12_unlike_96 f_X12_unlike_149
            rw [if_pos (nI_le (Nat.le_refl _) (by omega)), Option.map_some, zW_some, zI_inr, zI_inl, c_1, nI_add, hBs, hbs, if_pos e]
            exact ⟨rfl, rfl, rfl⟩
        · rw [if_neg e, if_pos (show -nI 1 = -1 from rfl), zW_some, zI_inl, c_1, nI_add, hBs, hbs, if_neg e]
          refine ⟨rfl, ?_, rfl⟩
          rw [show smN (fun j => if i < j then dU l l' (l.getD i 0) (l.getD j 0) else 0) l.length = 0 from (smN_congr _ (fun j hj => by rw [dU_n (Or.inl (fun h => e h.2))]; split <;> rfl)).trans (smN_0 _)]
          rfl
      · obtain ⟨y1, y2, y3⟩ := s
        obtain ⟨h1, h2, h3⟩ := hs
        dsimp only at h1 h2 h3
        subst h1 h2 h3
        show zW (f_X12_unlike_54 N m (nI l.length) (nI l'.length) (nI (bothN l l' l.length)) (nI (upS (fun i j => dU l l' (l.getD i 0) (l.getD j 0)) l.length)) (nI l.length) g3) _
        unfold f_X12_unlike_54
        rw [if_pos (nI_le (Nat.le_refl _) (by omega)), zW_map]
        refine r_only R3 hA (fun g4 J4 W4 R4 => ?_)
        rw [zW_some]
        exact ⟨rfl, (J0.trans (J3.mono (fun a j z => by omega))).trans ((J4.toM (m := m)).mono (fun a j z => by omega)), W4⟩)
end UN
