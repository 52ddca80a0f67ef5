/-! ===== drop: orders, and the least row of tellings that can go ===== -/
theorem bc4096 {k : Nat} (h : k < 4096) : f_J6_bitCount_0f7a4 (nI k) = some (nI (pc k)) := co_dec (N := 4096) (P := fun k => f_J6_bitCount_0f7a4 (nI k) = some (nI (pc k))) (by decide +kernel) h
theorem cl_bit : ∀ S, S < 256 → ∀ w, w < 8 → S / 2 ^ w % 2 = 1 → (2 ^ w ≤ S ∧ nI S &&& ((nI 1 <<< (nI w &&& 31)) ^^^ (-1 : Int32)) = nI (S - 2 ^ w)) := by decide +kernel
theorem cl_at0 : ∀ S, S < 256 → ∀ w, w < 8 → ∀ v, v < 8 → (S / 2 ^ w % 2 = 1 → (S - 2 ^ w) / 2 ^ v % 2 = if v = w then 0 else S / 2 ^ v % 2) := by decide +kernel
theorem cl_at (S : Nat) (hS : S < 256) (w : Nat) (hw : w < 8) (h : S / 2 ^ w % 2 = 1) (v : Nat) (hv : v < 8) : (((S - 2 ^ w) / 2 ^ v % 2 = 1) ↔ (v ≠ w ∧ S / 2 ^ v % 2 = 1)) := by
  rw [cl_at0 S hS w hw v hv h]
  by_cases e : v = w
  · rw [if_pos e]; exact ⟨fun h => absurd h (by decide), fun h => absurd e h.1⟩
  · rw [if_neg e]; exact ⟨fun h => ⟨e, h⟩, fun h => h.2⟩
theorem c4096 : ∀ i, i < 12 → (4096 : Int32) ||| (nI 1 <<< (nI i &&& 31)) = nI (4096 + 2 ^ i) := by decide +kernel
def bD (D i : Nat) : Bool := decide (D / 2 ^ i % 2 = 1)
theorem bD_t {D i : Nat} : (bD D i = true) ↔ D / 2 ^ i % 2 = 1 := ⟨fun h => of_decide_eq_true h, fun h => decide_eq_true h⟩
section DR
variable {P : List (Nat × Nat)}
def Sd (P : List (Nat × Nat)) (q : Nat → Bool) : Nat → List Nat → Prop
  | S, [] => S = 0
  | S, w :: r => w < 8 ∧ S / 2 ^ w % 2 = 1 ∧ (∀ i, i < P.length → q i = false → (P.getD i e0).1 = w → ¬ S / 2 ^ (P.getD i e0).2 % 2 = 1) ∧ Sd P q (S - 2 ^ w) r
def Cn (P : List (Nat × Nat)) (q : Nat → Bool) (S : Nat) : Prop := ∃ l, Sd P q S l
theorem no_bits {S : Nat} (hS : S < 256) (h : ∀ u, u < 8 → ¬ S / 2 ^ u % 2 = 1) : S = 0 := by
  by_cases e : S = 0
  · exact e
  · obtain ⟨j, h1, h2⟩ := bit_ex 8 (show S < 2 ^ 8 from hS) (by omega)
    exact absurd h2 (h j h1)
theorem Sd.mono {q q' : Nat → Bool} (h : ∀ i, i < P.length → q i = true → q' i = true) : ∀ (l : List Nat) (S : Nat), Sd P q S l → Sd P q' S l
  | [], _, hS => hS
  | w :: r, S, ⟨h1, h2, h3, h4⟩ => ⟨h1, h2, fun i hi hq => h3 i hi (by cases e : q i with
    | false => rfl
    | true => rw [h i hi e] at hq; cases hq), Sd.mono h r _ h4⟩
theorem Cn.mono {q q' : Nat → Bool} {S : Nat} (h : ∀ i, i < P.length → q i = true → q' i = true) : Cn P q S → Cn P q' S := fun ⟨l, hl⟩ => ⟨l, Sd.mono h l S hl⟩
theorem Sd.sub {q : Nat → Bool} (hP : ∀ i, i < P.length → (P.getD i e0).1 < 8 ∧ (P.getD i e0).2 < 8 ∧ (P.getD i e0).1 ≠ (P.getD i e0).2) : ∀ (l : List Nat) (S T : Nat), S < 256 → T < 256 → (∀ u, u < 8 → T / 2 ^ u % 2 = 1 → S / 2 ^ u % 2 = 1) → Sd P q S l → Cn P q T
  | [], S, T, _, hT, hs, h => by
    refine ⟨[], no_bits hT (fun u hu hb => ?_)⟩
    have h1 := hs u hu hb
    rw [show S = 0 from h, Nat.zero_div] at h1
    exact absurd h1 (by decide)
  | w :: r, S, T, hS, hT, hs, ⟨h1, h2, h3, h4⟩ => by
    have hS' : S - 2 ^ w < 256 := Nat.lt_of_le_of_lt (Nat.sub_le _ _) hS
    by_cases e : T / 2 ^ w % 2 = 1
    · obtain ⟨l', hl⟩ := Sd.sub hP r (S - 2 ^ w) (T - 2 ^ w) hS' (Nat.lt_of_le_of_lt (Nat.sub_le _ _) hT) (fun u hu hb => by
        obtain ⟨b1, b2⟩ := (cl_at T hT w h1 e u hu).mp hb
        exact (cl_at S hS w h1 h2 u hu).mpr ⟨b1, hs u hu b2⟩) h4
      exact ⟨w :: l', h1, e, fun i hi hq ha hb => h3 i hi hq ha (hs _ (hP i hi).2.1 hb), hl⟩
    · exact Sd.sub hP r (S - 2 ^ w) T hS' hT (fun u hu hb => (cl_at S hS w h1 h2 u hu).mpr ⟨fun x => by subst x; exact e hb, hs u hu hb⟩) h4
/-- one word that can go, goes -/
theorem Cn.step {q : Nat → Bool} (hP : ∀ i, i < P.length → (P.getD i e0).1 < 8 ∧ (P.getD i e0).2 < 8 ∧ (P.getD i e0).1 ≠ (P.getD i e0).2) {S w : Nat} (hS : S < 256) (hw : w < 8) (hb : S / 2 ^ w % 2 = 1) (h : ∀ i, i < P.length → q i = false → (P.getD i e0).1 = w → ¬ S / 2 ^ (P.getD i e0).2 % 2 = 1) : Cn P q S ↔ Cn P q (S - 2 ^ w) :=
  ⟨fun ⟨l, hl⟩ => Sd.sub hP l S (S - 2 ^ w) hS (Nat.lt_of_le_of_lt (Nat.sub_le _ _) hS) (fun u hu hx => ((cl_at S hS w hw hb u hu).mp hx).2) hl, fun ⟨l, hl⟩ => ⟨w :: l, hw, hb, h, hl⟩⟩
theorem Cn.stuck {q : Nat → Bool} {S : Nat} (h0 : S ≠ 0) (h : ∀ w, w < 8 → S / 2 ^ w % 2 = 1 → ∃ i, i < P.length ∧ q i = false ∧ (P.getD i e0).1 = w ∧ S / 2 ^ (P.getD i e0).2 % 2 = 1) : ¬ Cn P q S
  | ⟨[], hl⟩ => h0 hl
  | ⟨w :: r, h1, h2, h3, _⟩ => by
    obtain ⟨i, a1, a2, a3, a4⟩ := h w h1 h2
    exact h3 i a1 a2 a3 a4
/-! values -/
def vS (P : List (Nat × Nat)) (q : Nat → Bool) : Nat := smN (fun i => if q i = true then 4096 + 2 ^ i else 0) P.length
def vR (P : List (Nat × Nat)) (q : Nat → Bool) (T : Nat) : Nat := smN (fun i => if q i = true ∧ T / 2 ^ (P.getD i e0).1 % 2 = 1 ∧ T / 2 ^ (P.getD i e0).2 % 2 = 1 then 4096 + 2 ^ i else 0) P.length
def cb (P : List (Nat × Nat)) (w T n : Nat) : Nat := smN (fun i => if (P.getD i e0).1 = w ∧ T / 2 ^ (P.getD i e0).2 % 2 = 1 then 4096 + 2 ^ i else 0) n
def OKc (P : List (Nat × Nat)) (T v : Nat) : Prop := (∃ q, v = vS P q ∧ (∀ i, i < P.length → q i = true → T / 2 ^ (P.getD i e0).1 % 2 = 1 ∧ T / 2 ^ (P.getD i e0).2 % 2 = 1) ∧ Cn P q T) ∧ ∀ q, Cn P q T → v ≤ vR P q T
theorem term_le {b : Prop} [Decidable b] {i : Nat} (h : i < 12) : (if b then 4096 + 2 ^ i else 0) ≤ 6144 := by
  have : 2 ^ i ≤ 2 ^ 11 := p2_le (by omega)
  have h11 : 2 ^ 11 = 2048 := rfl
  split <;> omega
theorem OKc.lt {T v : Nat} (h12 : P.length ≤ 12) (h : OKc P T v) : v ≤ 73728 := by
  obtain ⟨⟨q, hv, -⟩, -⟩ := h
  have := smN_le (f := fun i => if q i = true then 4096 + 2 ^ i else 0) (k := 6144) P.length (fun i hi => term_le (by omega))
  have h2 : 6144 * P.length ≤ 6144 * 12 := Nat.mul_le_mul_left _ h12
  rw [hv]; unfold vS; omega
theorem cb_lt {w T : Nat} {n : Nat} (h12 : n ≤ 12) : cb P w T n ≤ 73728 := by
  have := smN_le (f := fun i => if (P.getD i e0).1 = w ∧ T / 2 ^ (P.getD i e0).2 % 2 = 1 then 4096 + 2 ^ i else 0) (k := 6144) n (fun i hi => term_le (by omega))
  have h2 : 6144 * n ≤ 6144 * 12 := Nat.mul_le_mul_left _ h12
  unfold cb; omega
theorem OKc.zero : OKc P 0 0 := by
  have z : ∀ u, ¬ 0 / 2 ^ u % 2 = 1 := fun u => by rw [Nat.zero_div]; decide
  refine ⟨⟨fun _ => false, ?_, fun i _ h => (Bool.false_ne_true h).elim, [], rfl⟩, fun q _ => Nat.zero_le _⟩
  unfold vS
  refine ((smN_congr _ (fun i _ => ?_)).trans (smN_0 P.length)).symm
  exact if_neg Bool.false_ne_true
theorem OKc.next (hP : ∀ i, i < P.length → (P.getD i e0).1 < 8 ∧ (P.getD i e0).2 < 8 ∧ (P.getD i e0).1 ≠ (P.getD i e0).2) {S v : Nat} {t : Nat → Nat} (hS : S < 256) (h0 : S ≠ 0) (ht : ∀ w, w < 8 → S / 2 ^ w % 2 = 1 → OKc P (S - 2 ^ w) (t w)) (hle : ∀ w, w < 8 → S / 2 ^ w % 2 = 1 → v ≤ t w + cb P w (S - 2 ^ w) P.length) (hex : ∃ w, w < 8 ∧ S / 2 ^ w % 2 = 1 ∧ v = t w + cb P w (S - 2 ^ w) P.length) : OKc P S v := by
  constructor
  · obtain ⟨w, hw, hb, hv⟩ := hex
    obtain ⟨⟨q, h1, h2, h3⟩, -⟩ := ht w hw hb
    refine ⟨fun i => q i || decide ((P.getD i e0).1 = w ∧ (S - 2 ^ w) / 2 ^ (P.getD i e0).2 % 2 = 1), ?_, fun i hi hq => ?_, ?_⟩
    · rw [hv, h1]
      unfold vS cb
      rw [← smN_add]
      refine (smN_congr _ (fun i hi => ?_)).symm
      dsimp only
      obtain ⟨p1, p2, p3⟩ := hP i hi
      by_cases eq : q i = true
      · have hn : ¬ ((P.getD i e0).1 = w ∧ (S - 2 ^ w) / 2 ^ (P.getD i e0).2 % 2 = 1) := fun h => by
          have := (cl_at S hS w hw hb _ p1).mp (h2 i hi eq).1
          exact this.1 h.1
        rw [if_pos eq, if_neg hn, if_pos (by rw [eq, Bool.true_or])]; rfl
      · rw [if_neg eq, Nat.zero_add]
        by_cases e : (P.getD i e0).1 = w ∧ (S - 2 ^ w) / 2 ^ (P.getD i e0).2 % 2 = 1
        · rw [if_pos e, if_pos (by rw [decide_eq_true e, Bool.or_true])]
        · rw [if_neg e, if_neg (by rw [decide_eq_false e, Bool.or_false]; exact eq)]
    · obtain ⟨p1, p2, p3⟩ := hP i hi
      dsimp only at hq
      rcases Bool.or_eq_true _ _ |>.mp hq with hq | hq
      · obtain ⟨a1, a2⟩ := h2 i hi hq
        exact ⟨((cl_at S hS w hw hb _ p1).mp a1).2, ((cl_at S hS w hw hb _ p2).mp a2).2⟩
      · obtain ⟨a1, a2⟩ := of_decide_eq_true hq
        exact ⟨by rw [a1]; exact hb, ((cl_at S hS w hw hb _ p2).mp a2).2⟩
    · obtain ⟨l, hl⟩ := h3
      refine ⟨w :: l, hw, hb, fun i hi hq ha hx => ?_, Sd.mono (fun i _ hq => by rw [hq, Bool.true_or]) l _ hl⟩
      obtain ⟨p1, p2, p3⟩ := hP i hi
      dsimp only at hq
      have hq2 := (Bool.or_eq_false_iff.mp hq).2
      have := of_decide_eq_false hq2
      exact this ⟨ha, (cl_at S hS w hw hb _ p2).mpr ⟨fun h => p3 (ha.trans h.symm), hx⟩⟩
  · rintro q ⟨l, hl⟩
    cases l with
    | nil => exact absurd hl h0
    | cons w r =>
      obtain ⟨hw, hb, h3, h4⟩ := hl
      refine Nat.le_trans (hle w hw hb) (Nat.le_trans (Nat.add_le_add_right ((ht w hw hb).2 q ⟨r, h4⟩) _) ?_)
      unfold vR cb
      rw [← smN_add]
      refine smN_mono _ (fun i hi => ?_)
      obtain ⟨p1, p2, p3⟩ := hP i hi
      by_cases e : (P.getD i e0).1 = w ∧ (S - 2 ^ w) / 2 ^ (P.getD i e0).2 % 2 = 1
      · have hx := ((cl_at S hS w hw hb _ p2).mp e.2).2
        have hqi : q i = true := by
          cases eq : q i with
          | true => rfl
          | false => exact absurd hx (h3 i hi eq e.1)
        rw [if_neg (fun h => ((cl_at S hS w hw hb _ p1).mp h.2.1).1 e.1), if_pos e, if_pos ⟨hqi, by rw [e.1]; exact hb, hx⟩, Nat.zero_add]
        exact Nat.le_refl _
      · rw [if_neg e, Nat.add_zero]
        by_cases e2 : q i = true ∧ (S - 2 ^ w) / 2 ^ (P.getD i e0).1 % 2 = 1 ∧ (S - 2 ^ w) / 2 ^ (P.getD i e0).2 % 2 = 1
        · rw [if_pos e2, if_pos ⟨e2.1, ((cl_at S hS w hw hb _ p1).mp e2.2.1).2, ((cl_at S hS w hw hb _ p2).mp e2.2.2).2⟩]
          exact Nat.le_refl _
        · rw [if_neg e2]; exact Nat.zero_le _
/-! a row of tellings as a number -/
theorem sm_num {D : Nat} : ∀ n, smN (fun i => if bD D i = true then 2 ^ i else 0) n = D % 2 ^ n
  | 0 => by show 0 = D % 1; rw [Nat.mod_one]
  | n + 1 => by
    show smN (fun i => if bD D i = true then 2 ^ i else 0) n + (if bD D n = true then 2 ^ n else 0) = D % 2 ^ (n + 1)
    rw [sm_num n, Nat.pow_succ, Nat.mod_mul]
    by_cases e : D / 2 ^ n % 2 = 1
    · rw [if_pos (bD_t.mpr e), e, Nat.mul_one]
    · rw [if_neg (fun h => e (bD_t.mp h)), show D / 2 ^ n % 2 = 0 by omega, Nat.mul_zero]
theorem sm_mul {f : Nat → Nat} {k : Nat} : ∀ n, smN (fun i => k * f i) n = k * smN f n
  | 0 => rfl
  | n + 1 => by show smN (fun i => k * f i) n + k * f n = k * (smN f n + f n); rw [sm_mul n, Nat.mul_add]
theorem vS_e {D : Nat} (h12 : P.length ≤ 12) (hD : D < 2 ^ P.length) : vS P (bD D) = 4096 * pc D + D := by
  have h1 : pc D = smN (fun i => if bD D i then 1 else 0) P.length := pc_bits h12 (fun p => ⟨fun h => ⟨by
    refine Decidable.byContradiction (fun hn => ?_)
    have : 2 ^ P.length ≤ 2 ^ p := p2_le (by omega)
    rw [Nat.div_eq_of_lt (by omega)] at h
    exact absurd h (by decide), bD_t.mpr h⟩, fun h => bD_t.mp h.2⟩)
  have h2 := sm_num (D := D) P.length
  rw [Nat.mod_eq_of_lt hD] at h2
  rw [h1, ← sm_mul]
  unfold vS
  refine Eq.trans ?_ (congrArg (fun z => smN (fun i => 4096 * if bD D i = true then 1 else 0) P.length + z) h2)
  rw [← smN_add]
  refine smN_congr _ (fun i _ => ?_)
  split <;> rfl
theorem mk_ltp {C : Nat → Bool} : ∀ n, mk C n < 2 ^ n
  | 0 => by show 0 < 1; omega
  | n + 1 => by
    have ih := mk_ltp (C := C) n
    have h2 : 2 ^ (n + 1) = 2 ^ n * 2 := Nat.pow_succ 2 n
    rw [mk_s]
    split
    · exact Nat.or_lt_two_pow (by omega) (by rw [h2]; have := Nat.two_pow_pos n; omega)
    · omega
/-- the least cost, as a number of tellings -/
theorem OKc.out {v : Nat} (h12 : P.length ≤ 12) (h : OKc P 255 v) : ∃ D, D < 2 ^ P.length ∧ v = 4096 * pc D + D ∧ Cn P (bD D) 255 ∧ ∀ D', D' < 2 ^ P.length → Cn P (bD D') 255 → v ≤ 4096 * pc D' + D' := by
  obtain ⟨⟨q, h1, h2, h3⟩, h4⟩ := h
  have hD := mk_ltp (C := q) P.length
  have hq : ∀ i, i < P.length → (bD (mk q P.length) i = true ↔ q i = true) := fun i hi => by
    rw [bD_t, mk_bit]; exact ⟨fun h => h.2, fun h => ⟨hi, h⟩⟩
  refine ⟨mk q P.length, hD, ?_, Cn.mono (fun i hi => (hq i hi).mpr) h3, fun D' hD' hc => ?_⟩
  · rw [← vS_e h12 hD, h1]
    unfold vS
    refine smN_congr _ (fun i hi => ?_)
    cases e : q i with
    | true => rw [(hq i hi).mpr e]
    | false =>
      cases e' : bD (mk q P.length) i with
      | false => rfl
      | true => rw [(hq i hi).mp e'] at e; cases e
  · rw [← vS_e h12 hD']
    refine Nat.le_trans (h4 _ hc) ?_
    unfold vR vS
    refine smN_mono _ (fun i hi => ?_)
    by_cases e : bD D' i = true ∧ 255 / 2 ^ (P.getD i e0).1 % 2 = 1 ∧ 255 / 2 ^ (P.getD i e0).2 % 2 = 1
    · rw [if_pos e, if_pos e.1]; exact Nat.le_refl _
    · rw [if_neg e]; exact Nat.zero_le _
/-- all bits are ones -/
theorem pc_full {D n : Nat} (h12 : n ≤ 12) (hD : D < 2 ^ n) (h : n ≤ pc D) : 2 ^ n - 1 ≤ D := by
  have hb : ∀ i, (D / 2 ^ i % 2 = 1) ↔ (i < n ∧ bD D i = true) := fun p => ⟨fun h => ⟨by
    refine Decidable.byContradiction (fun hn => ?_)
    have : 2 ^ n ≤ 2 ^ p := p2_le (by omega)
    rw [Nat.div_eq_of_lt (by omega)] at h
    exact absurd h (by decide), bD_t.mpr h⟩, fun h => bD_t.mp h.2⟩
  have h1 : pc D = smN (fun i => if bD D i then 1 else 0) n := pc_bits h12 hb
  have h2 := sm_num (D := D) n
  rw [Nat.mod_eq_of_lt hD] at h2
  have all : ∀ k, k ≤ n → (k ≤ smN (fun i => if bD D i then 1 else 0) k → smN (fun i => if bD D i = true then 2 ^ i else 0) k = 2 ^ k - 1) := by
    intro k
    induction k with
    | zero => intro _ _; rfl
    | succ k ih =>
      intro hk hs
      have hs' : k + 1 ≤ smN (fun i => if bD D i then 1 else 0) k + (if bD D k then 1 else 0) := hs
      have hle : smN (fun i => if bD D i then 1 else 0) k ≤ 1 * k := smN_le k (fun i _ => by split <;> omega)
      show smN (fun i => if bD D i = true then 2 ^ i else 0) k + (if bD D k = true then 2 ^ k else 0) = 2 ^ (k + 1) - 1
      cases e : bD D k with
      | false => rw [e, if_neg Bool.false_ne_true] at hs'; omega
      | true =>
        rw [e, if_pos rfl] at hs'
        rw [ih (by omega) (by omega), if_pos rfl, Nat.pow_succ]
        have := Nat.two_pow_pos k
        omega
  have := all n (Nat.le_refl _) (by omega)
  omega
theorem pc_le {D n : Nat} (h12 : n ≤ 12) (hD : D < 2 ^ n) : pc D ≤ n := by
  have hb : ∀ i, (D / 2 ^ i % 2 = 1) ↔ (i < n ∧ bD D i = true) := fun p => ⟨fun h => ⟨by
    refine Decidable.byContradiction (fun hn => ?_)
    have : 2 ^ n ≤ 2 ^ p := p2_le (by omega)
    rw [Nat.div_eq_of_lt (by omega)] at h
    exact absurd h (by decide), bD_t.mpr h⟩, fun h => bD_t.mp h.2⟩
  rw [pc_bits h12 hb]
  have : smN (fun i => if bD D i then 1 else 0) n ≤ 1 * n := smN_le n (fun i _ => by split <;> omega)
  omega
end DR
