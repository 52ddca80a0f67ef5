/-! ===== numbers below 0, ranges, searches ===== -/
section NG
variable {a b : Nat}
theorem ng_lt (ha : a < 2 ^ 31) (hb : b < 2 ^ 31) : (nI a < -nI b) ↔ False := ⟨fun h => by
  rw [Int32.lt_iff_toInt_lt, nI_toInt ha, sb_negT hb] at h; omega, False.elim⟩
theorem ng_le (ha : a < 2 ^ 31) (hb : b < 2 ^ 31) : (nI a ≤ -nI b) ↔ (a = 0 ∧ b = 0) := by
  rw [Int32.le_iff_toInt_le, nI_toInt ha, sb_negT hb]; omega
theorem ng_lt2 (ha : a < 2 ^ 31) (hb : b < 2 ^ 31) : (-nI b < nI a) ↔ (0 < a ∨ 0 < b) := by
  rw [Int32.lt_iff_toInt_lt, nI_toInt ha, sb_negT hb]; omega
theorem ng_le2 (ha : a < 2 ^ 31) (hb : b < 2 ^ 31) : (-nI b ≤ nI a) ↔ True := ⟨fun _ => trivial, fun _ => by
  rw [Int32.le_iff_toInt_le, nI_toInt ha, sb_negT hb]; omega⟩
theorem ng_eq (ha : a < 2 ^ 31) (hb : b < 2 ^ 31) : (nI a = -nI b) ↔ (a = 0 ∧ b = 0) := by
  rw [← Int32.toInt_inj, nI_toInt ha, sb_negT hb]; omega
theorem ng_eq2 (ha : a < 2 ^ 31) (hb : b < 2 ^ 31) : (-nI b = nI a) ↔ (a = 0 ∧ b = 0) := by
  rw [eq_comm]; exact ng_eq ha hb
theorem ng_nn (ha : a < 2 ^ 31) (hb : b < 2 ^ 31) : (-nI a = -nI b) ↔ a = b := by
  rw [← Int32.toInt_inj, sb_negT ha, sb_negT hb]; omega
theorem ng_dec (h : 1 ≤ a) : nI a + -nI 1 = nI (a - 1) := nI_dec h
theorem ng_dec0 : nI 0 + -nI 1 = -nI 1 := by decide
end NG
def rb (v : Int32) (lo hi : Nat) : Bool := decide ((lo : Int) ≤ v.toInt ∧ v.toInt < (hi : Int))
def bI (b : Bool) : Int32 := if b then nI 1 else nI 0
theorem bI_t : bI true = nI 1 := rfl
theorem bI_f : bI false = nI 0 := rfl
theorem bI_nar {b : Bool} : vp_nar .boolean (bI b) = bI b := by cases b <;> rfl
theorem bI_0 {b : Bool} : (bI b = nI 0) ↔ b = false := by cases b <;> decide
theorem bI_1 {b : Bool} : (bI b = nI 1) ↔ b = true := by cases b <;> decide
theorem rb_t {v : Int32} {lo hi : Nat} (h : rb v lo hi = true) (hh : hi ≤ 2 ^ 31) : ∃ k, lo ≤ k ∧ k < hi ∧ v = nI k := by
  have := of_decide_eq_true h
  refine ⟨v.toInt.toNat, by omega, by omega, Int32.toInt_inj.mp ?_⟩
  rw [nI_toInt (by omega)]; omega
theorem rb_n {k lo hi : Nat} (hk : k < 2 ^ 31) : rb (nI k) lo hi = decide (lo ≤ k ∧ k < hi) := by
  unfold rb
  rw [nI_toInt hk]
  exact decide_eq_decide.mpr (by omega)
theorem rb_f {v : Int32} {lo hi : Nat} (h : rb v lo hi = false) (hl : lo < 2 ^ 31) (hh : hi < 2 ^ 31) : v < nI lo ∨ nI hi ≤ v := by
  have := of_decide_eq_false h
  rw [Int32.lt_iff_toInt_lt, Int32.le_iff_toInt_le, nI_toInt hl, nI_toInt hh]; omega
theorem rb_lo {v : Int32} {lo hi : Nat} (h : v < nI lo) (hl : lo < 2 ^ 31) : rb v lo hi = false := by
  rw [Int32.lt_iff_toInt_lt, nI_toInt hl] at h
  exact decide_eq_false (by omega)
theorem rb_hi {v : Int32} {lo hi : Nat} (h : nI hi ≤ v) (hl : hi < 2 ^ 31) : rb v lo hi = false := by
  rw [Int32.le_iff_toInt_le, nI_toInt hl] at h
  exact decide_eq_false (by omega)
theorem rb_ok {v : Int32} {lo hi : Nat} (h : ¬ v < nI lo) (h2 : ¬ nI hi ≤ v) (hl : lo < 2 ^ 31) (hh : hi < 2 ^ 31) : rb v lo hi = true := by
  rw [Int32.lt_iff_toInt_lt, nI_toInt hl] at h
  rw [Int32.le_iff_toInt_le, nI_toInt hh] at h2
  exact decide_eq_true (by omega)
theorem lt_s1 {v : Int32} {h : Nat} (hh : h + 1 < 2 ^ 31) : nI h < v ↔ nI (h + 1) ≤ v := by
  rw [Int32.lt_iff_toInt_lt, Int32.le_iff_toInt_le, nI_toInt (by omega), nI_toInt hh]; omega
theorem le_s1 {v : Int32} {h : Nat} (hh : h + 1 < 2 ^ 31) : v ≤ nI h ↔ v < nI (h + 1) := by
  rw [Int32.lt_iff_toInt_lt, Int32.le_iff_toInt_le, nI_toInt (by omega), nI_toInt hh]; omega
theorem e_in {v : Int32} {lo hi : Nat} (hl : lo < 2 ^ 31) (hh : hi + 1 < 2 ^ 31) : f_X12_in v (nI lo) (nI hi) = some (bI (rb v lo (hi + 1))) := by
  unfold f_X12_in f_X12_in_14 f_X12_in_15
  by_cases h1 : v < nI lo
  · rw [if_pos h1, rb_lo h1 hl]; rfl
  · rw [if_neg h1]
    by_cases h2 : nI hi < v
    · rw [if_pos h2, rb_hi ((lt_s1 hh).mp h2) hh]; rfl
    · rw [if_neg h2, rb_ok h1 (fun h => h2 ((lt_s1 hh).mpr h)) hl hh]; rfl
theorem e_in0 {v : Int32} : f_X12_in v (nI 0) (-nI 1) = some (bI false) := by
  unfold f_X12_in f_X12_in_14 f_X12_in_15
  by_cases h1 : v < nI 0
  · rw [if_pos h1]; rfl
  · rw [if_neg h1, if_pos]
    · rfl
    · rw [Int32.lt_iff_toInt_lt, nI_toInt (by omega)] at h1
      rw [Int32.lt_iff_toInt_lt, sb_negT (by omega)]; omega
theorem e_ih12 {v : Int32} : f_X12_isHouse v = some (bI (rb v 0 4)) := by
  unfold f_X12_isHouse
  rw [c_0, c_3, e_in (by omega) (by omega), Option.bind_some, if_pos bI_nar]
theorem e_iw12 {v : Int32} : f_X12_isWord v = some (bI (rb v 0 8)) := by
  unfold f_X12_isWord
  rw [c_0, c_7, e_in (by omega) (by omega), Option.bind_some, if_pos bI_nar]
theorem rb_0 {v : Int32} : rb v 0 0 = false := decide_eq_false (by omega)
theorem e_ip12 {g : ZS} {m n : Nat} {v : Int32} (h : zsh g m = some (12, 0)) (hn : zgi g m 1 = nI n) (h6 : n < 2 ^ 30) : f_X12_isParrot m v g = some (bI (rb v 0 n)) := by
  unfold f_X12_isParrot
  rw [p_rdI h, Option.bind_some, hn, c_0, c_1]
  by_cases e : n = 0
  · subst e
    rw [show nI 0 - nI 1 = -nI 1 by decide, e_in0, Option.bind_some, if_pos bI_nar, rb_0]
  · rw [nI_sub (by omega), e_in (by omega) (by omega), Option.bind_some, if_pos bI_nar, show n - 1 + 1 = n by omega]
theorem e_isIn {g : ZS} {s n : Nat} {v : Int32} (h : zsh g s = some (6, 0)) (hn : zgi g s 1 = nI n) (h6 : n < 2 ^ 30) : f_X6_isIn s v g = some (bI (rb v 0 n)) := by
  unfold f_X6_isIn f_X6_isIn_16 f_X6_isIn_17
  rw [p_rdI h, Option.bind_some, hn, c_0]
  by_cases h1 : v < nI 0
  · rw [if_pos h1, rb_lo h1 (by omega)]; rfl
  · rw [if_neg h1]
    by_cases h2 : nI n ≤ v
    · rw [if_pos h2, rb_hi h2 (by omega)]; rfl
    · rw [if_neg h2, rb_ok h1 h2 (by omega) (by omega)]; rfl
theorem e_ih11 {v : Int32} : f_X11_isHouse v = some (bI (rb v 0 4)) := by
  unfold f_X11_isHouse f_X11_isHouse_13 f_X11_isHouse_14
  rw [c_0, c_4]
  by_cases h1 : v < nI 0
  · rw [if_pos h1, rb_lo h1 (by omega)]; rfl
  · rw [if_neg h1]
    by_cases h2 : nI 4 ≤ v
    · rw [if_pos h2, rb_hi h2 (by omega)]; rfl
    · rw [if_neg h2, rb_ok h1 h2 (by omega) (by omega)]; rfl
theorem e_iw11 {v : Int32} : f_X11_isWord v = some (bI (rb v 0 8)) := by
  unfold f_X11_isWord f_X11_isWord_14 f_X11_isWord_15
  rw [c_0, c_8]
  by_cases h1 : v < nI 0
  · rw [if_pos h1, rb_lo h1 (by omega)]; rfl
  · rw [if_neg h1]
    by_cases h2 : nI 8 ≤ v
    · rw [if_pos h2, rb_hi h2 (by omega)]; rfl
    · rw [if_neg h2, rb_ok h1 h2 (by omega) (by omega)]; rfl
/-! the first that is so -/
def zleast (P : Nat → Bool) : Nat → Nat → Nat
  | 0, i => i
  | k + 1, i => if P i then i else zleast P k (i + 1)
theorem zleast_spec (P : Nat → Bool) : ∀ (k i : Nat), i ≤ zleast P k i ∧ zleast P k i ≤ i + k ∧ (∀ j, i ≤ j → j < zleast P k i → P j = false) ∧ (zleast P k i < i + k → P (zleast P k i) = true)
  | 0, i => ⟨Nat.le_refl _, Nat.le_refl _, fun j h1 h2 => absurd h2 (Nat.not_lt.mpr h1), fun h => absurd h (Nat.lt_irrefl _)⟩
  | k + 1, i => by
    unfold zleast
    by_cases h : P i = true
    · rw [if_pos h]
      exact ⟨Nat.le_refl _, by omega, fun j h1 h2 => absurd h2 (Nat.not_lt.mpr h1), fun _ => h⟩
    · rw [if_neg h]
      obtain ⟨h1, h2, h3, h4⟩ := zleast_spec P k (i + 1)
      refine ⟨by omega, by omega, fun j a b => ?_, fun hh => h4 (by omega)⟩
      by_cases e : j = i
      · subst e; exact Bool.eq_false_iff.mpr h
      · exact h3 j (by omega) b
theorem zleast_le (P : Nat → Bool) (n : Nat) : zleast P n 0 ≤ n := by have := (zleast_spec P n 0).2.1; omega
theorem loopL {γ : Type} {body : Int32 → Option (Int32 ⊕ γ)} (P : Nat → Bool) (r : Nat → γ) (out : γ) (n : Nat) (hs : ∀ i, i < n → body (nI i) = if P i then some (.inr (r i)) else some (.inl (nI (i + 1)))) (he : body (nI n) = some (.inr out)) {N : Nat} (hN : n < N) : zloop body N (nI 0) = some (if zleast P n 0 < n then r (zleast P n 0) else out) := by
  have key : ∀ (k i M : Nat), i + k = n → k < M → zloop body M (nI i) = some (if zleast P k i < n then r (zleast P k i) else out) := by
    intro k
    induction k with
    | zero =>
      intro i M hi hM
      obtain ⟨M', rfl⟩ : ∃ q, M = q + 1 := ⟨M - 1, by omega⟩
      have : i = n := by omega
      subst this
      simp [zloop, he, zleast]
    | succ k ih =>
      intro i M hi hM
      obtain ⟨M', rfl⟩ : ∃ q, M = q + 1 := ⟨M - 1, by omega⟩
      have hb := hs i (by omega)
      unfold zleast
      by_cases h : P i = true
      · rw [if_pos h] at hb
        rw [if_pos h, if_pos (show i < n by omega)]
        simp [zloop, hb]
      · rw [if_neg h] at hb
        rw [if_neg h]
        simp only [zloop, hb, Option.bind_some]
        exact ih (i + 1) M' (by omega) (by omega)
  exact key n 0 N (by omega) hN
/-- downward loops over (k, g) -/
theorem zW_down {γ : Type} {body : Int32 × ZS → Option ((Int32 × ZS) ⊕ γ)} {Q : γ → Prop} (I : Nat → ZS → Prop) (h : ∀ k g, I k g → zW (body (nI k, g)) (zI (fun s => 0 < k ∧ s.1 = nI (k - 1) ∧ I (k - 1) s.2) Q)) {N k : Nat} {g : ZS} (hN : k < N) (h0 : I k g) : zW (zloop body N (nI k, g)) Q :=
  zW_while (fun k s => s.1 = nI k ∧ I k s.2) (fun k s hs => by
    obtain ⟨a, g⟩ := s
    obtain ⟨rfl, h2⟩ := hs
    refine (h k g h2).mono (fun r hr => ?_)
    cases r with
    | inl s' => exact ⟨k - 1, by have := hr.1; omega, hr.2⟩
    | inr o => exact hr) k N (nI k, g) hN ⟨rfl, h0⟩
/-- loops over (a, i, g) -/
theorem zW_forAI {α γ : Type} {body : α × Int32 × ZS → Option ((α × Int32 × ZS) ⊕ γ)} {Q : γ → Prop} (I : Nat → α → ZS → Prop) (n : Nat) (h : ∀ i a g, i < n → I i a g → zW (body (a, nI i, g)) (zI (fun s => s.2.1 = nI (i + 1) ∧ I (i + 1) s.1 s.2.2) Q)) (he : ∀ a g, I n a g → zW (body (a, nI n, g)) (zI (fun _ => False) Q)) {N : Nat} (hN : n < N) {a0 : α} {g0 : ZS} (h0 : I 0 a0 g0) : zW (zloop body N (a0, nI 0, g0)) Q :=
  zW_for (fun i s => s.2.1 = nI i ∧ I i s.1 s.2.2) n (fun i s hi hs => by obtain ⟨a, b, g⟩ := s; obtain ⟨e, h2⟩ := hs; cases e; exact h i a g hi h2) (fun s hs => by obtain ⟨a, b, g⟩ := s; obtain ⟨e, h2⟩ := hs; cases e; exact he a g h2) hN (Nat.zero_le _) ⟨rfl, h0⟩
