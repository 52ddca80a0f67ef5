/-! ===== trial: what it tells ===== -/
def isA (c : Nat) : Bool := decide (c = 100 ∨ c = 107 ∨ c = 109 ∨ c = 115 ∨ c = 116 ∨ c = 120)
def ta (c : Nat) : Nat := if c = 120 then 1 else if c = 109 ∨ c = 116 then 3 else 2
def td (l : List Nat) (p : Nat) : Bool := decide (p < 60 ∧ p < l.length ∧ 48 ≤ l.getD p 0 ∧ l.getD p 0 ≤ 57)
def tw (l : List Nat) (p : Nat) : Bool := decide (p < 60 ∧ p < l.length ∧ 97 ≤ l.getD p 0 ∧ l.getD p 0 ≤ 104)
def t2 (l : List Nat) (e : Nat) : Bool := if l.getD e 0 = 116 then tw l (e + 2) else td l (e + 2)
def gA (l : List Nat) (e : Nat) : Bool := decide (e < 60 ∧ isA (l.getD e 0) = true ∧ (2 ≤ ta (l.getD e 0) → td l (e + 1) = true) ∧ (ta (l.getD e 0) = 3 → t2 l e = true))
def fA (l : List Nat) (e : Nat) : Nat := if ¬ (e < 60 ∧ isA (l.getD e 0) = true) then e else if td l (e + 1) = false then e + 1 else e + 2
def tP (l : List Nat) : Nat → Nat
  | 0 => 0
  | i + 1 => tP l i + ta (l.getD (tP l i) 0)
theorem ta_13 {c : Nat} : 1 ≤ ta c ∧ ta c ≤ 3 := by
  unfold ta
  split
  · omega
  · split <;> omega
theorem tP_ge {l : List Nat} : ∀ i, i ≤ tP l i
  | 0 => Nat.le_refl _
  | i + 1 => by
    have := tP_ge (l := l) i
    have := (ta_13 (c := l.getD (tP l i) 0)).1
    show i + 1 ≤ tP l i + ta (l.getD (tP l i) 0)
    omega
def tG (l : List Nat) (i : Nat) : Bool := !decide (tP l i < l.length ∧ gA l (tP l i) = true)
def tN (l : List Nat) : Nat := zleast (tG l) 81 0
theorem td_n {l : List Nat} {p : Nat} (h : td l p = true) : p < 60 ∧ p < l.length ∧ 48 ≤ l.getD p 0 ∧ l.getD p 0 ≤ 57 := of_decide_eq_true h
theorem tw_n {l : List Nat} {p : Nat} (h : tw l p = true) : p < 60 ∧ p < l.length ∧ 97 ≤ l.getD p 0 ∧ l.getD p 0 ≤ 104 := of_decide_eq_true h
theorem gA_end {l : List Nat} {e : Nat} (he : e < l.length) (h : gA l e = true) : e + ta (l.getD e 0) ≤ l.length ∧ e + ta (l.getD e 0) ≤ 60 := by
  obtain ⟨h1, h2, h3, h4⟩ := of_decide_eq_true h
  obtain ⟨t1, t3⟩ := ta_13 (c := l.getD e 0)
  by_cases e3 : ta (l.getD e 0) = 3
  · have h5 := h4 e3
    unfold t2 at h5
    split at h5
    · have := tw_n h5; omega
    · have := td_n h5; omega
  · by_cases e2 : ta (l.getD e 0) = 2
    · have := td_n (h3 (by omega)); omega
    · omega
theorem tN_spec {l : List Nat} (h80 : l.length ≤ 80) : tN l ≤ 80 ∧ (∀ i, i < tN l → tP l i < l.length ∧ gA l (tP l i) = true) ∧ tP l (tN l) ≤ l.length ∧ tP l (tN l) ≤ 60 ∧ (tP l (tN l) < l.length → gA l (tP l (tN l)) = false) := by
  obtain ⟨h1, h2, h3, h4⟩ := zleast_spec (tG l) 81 0
  have hg : ∀ i, i < tN l → tP l i < l.length ∧ gA l (tP l i) = true := fun i hi => by
    have := h3 i (Nat.zero_le _) hi
    unfold tG at this
    exact of_decide_eq_true (by cases e : decide (tP l i < l.length ∧ gA l (tP l i) = true) <;> rw [e] at this <;> first | rfl | cases this)
  have hle : tN l ≤ 80 := by
    by_cases e : tN l ≤ 80
    · exact e
    · have := (hg 80 (by omega)).1
      have := tP_ge (l := l) 80
      omega
  have hend : ∀ k, k ≤ tN l → tP l k ≤ l.length ∧ tP l k ≤ 60 := fun k hk => by
    cases k with
    | zero => exact ⟨Nat.zero_le _, Nat.zero_le _⟩
    | succ k => exact gA_end (hg k (by omega)).1 (hg k (by omega)).2
  refine ⟨hle, hg, (hend _ (Nat.le_refl _)).1, (hend _ (Nat.le_refl _)).2, fun hlt => ?_⟩
  have h5 := h4 (by unfold tN at hle; omega)
  cases hga : gA l (tP l (tN l)) with
  | false => rfl
  | true =>
    have h6 : tG l (tN l) = true := h5
    unfold tG at h6
    rw [decide_eq_true ⟨hlt, hga⟩] at h6
    cases h6
theorem zl_inl {S γ : Type} {body : S → Option (S ⊕ γ)} {s s' : S} {M : Nat} (h : body s = some (.inl s')) : zloop body (M + 1) s = zloop body M s' := by simp only [zloop, h, Option.bind_some]
theorem zl_inr {S γ : Type} {body : S → Option (S ⊕ γ)} {s : S} {o : γ} {M : Nat} (h : body s = some (.inr o)) : zloop body (M + 1) s = some o := by simp only [zloop, h, Option.bind_some]
theorem e_signs {c : Nat} (h : c < 256) : f_X11_signsBehind (nI c) = some (if isA c = true then nI (ta c - 1) else -1) := co_dec (N := 256) (P := fun c => f_X11_signsBehind (nI c) = some (if isA c = true then nI (ta c - 1) else -1)) (by decide +kernel) h
section TR
variable {N x m c : Nat} {g g' : ZS} {A : ZA} {l : List Nat}
theorem b_start {p : Nat} {a : Int32} (hC : CJ x g A) (hT : XT g (x + 1) (x + 2) l) (hp : p < l.length) (h60 : p < 60) (hA : isA (l.getD p 0) = true) : f_X11_badInTrial_7 N x a (nI 0) (nI p) g = some (.inl (nI (l.getD p 0), nI (ta (l.getD p 0) - 1), nI (p + 1))) := by
  have h80 := hT.2.2.2.2.1
  have hc := hT.c256 p
  have t3 := (ta_13 (c := l.getD p 0))
  unfold f_X11_badInTrial_7 f_X11_badInTrial_102
  rw [p_rdR hC.1.s0, hC.1.r0_0, Option.bind_some, p_rdI hT.1, Option.bind_some, hT.2.2.2.1, if_neg (nI_ge hp (by omega)), c_60, if_pos (nI_lt h60 (by omega)), if_pos (show nI 0 = 0 from rfl), Option.bind_some, p_vs hT.1, e_at hT (by omega), Option.bind_some, e_signs hc, if_pos hA, Option.bind_some, if_neg (fun h => (neg1_ne (by omega)).mp h), c_1, nI_add]
theorem b_startN {p : Nat} {a : Int32} (hC : CJ x g A) (hT : XT g (x + 1) (x + 2) l) (hp : p < l.length) (h : ¬ (p < 60 ∧ isA (l.getD p 0) = true)) : f_X11_badInTrial_7 N x a (nI 0) (nI p) g = some (.inr (nI p)) := by
  have h80 := hT.2.2.2.2.1
  have hc := hT.c256 p
  unfold f_X11_badInTrial_7
  rw [p_rdR hC.1.s0, hC.1.r0_0, Option.bind_some, p_rdI hT.1, Option.bind_some, hT.2.2.2.1, if_neg (nI_ge hp (by omega)), c_60]
  by_cases h60 : p < 60
  · rw [if_pos (nI_lt h60 (by omega)), if_pos (show nI 0 = 0 from rfl), Option.bind_some, p_vs hT.1, e_at hT (by omega), Option.bind_some, e_signs hc, if_neg (fun h' => h ⟨h60, h'⟩), Option.bind_some, if_pos rfl]; rfl
  · rw [if_neg (nI_nlt (by omega) (by omega))]; rfl
theorem b_end {a : Int32} (hC : CJ x g A) (hT : XT g (x + 1) (x + 2) l) : f_X11_badInTrial_7 N x a (nI 0) (nI l.length) g = some (.inr (-1)) := by
  have h80 := hT.2.2.2.2.1
  unfold f_X11_badInTrial_7 f_X11_badInTrial_123
  rw [p_rdR hC.1.s0, hC.1.r0_0, Option.bind_some, p_rdI hT.1, Option.bind_some, hT.2.2.2.1, if_pos (nI_le (Nat.le_refl _) (by omega)), if_pos (show nI 0 = 0 from rfl)]; rfl
/-- a digit is due -/
theorem b_digit {p k ac : Nat} (hC : CJ x g A) (hT : XT g (x + 1) (x + 2) l) (hp : p ≤ l.length) (hk : 1 ≤ k) (hk3 : k ≤ 3) (hac : ac < 256) (ht : ¬ (ac = 116 ∧ k = 1)) : f_X11_badInTrial_7 N x (nI ac) (nI k) (nI p) g = if td l p = true then some (.inl (nI ac, nI (k - 1), nI (p + 1))) else some (.inr (nI p)) := by
  have h80 := hT.2.2.2.2.1
  have hc := hT.c256 p
  unfold f_X11_badInTrial_7 f_X11_badInTrial_66 f_X11_badInTrial_67 f_X11_badInTrial_93 f_X11_badInTrial_102 f_X11_badInTrial_123 td
  rw [p_rdR hC.1.s0, hC.1.r0_0, Option.bind_some, p_rdI hT.1, Option.bind_some, hT.2.2.2.1]
  by_cases e : p = l.length
  · rw [if_pos (nI_le (by omega) (by omega)), if_neg (nI_ne0 (by omega) (by omega)), Option.bind_some, p_rdI hT.1, Option.bind_some, hT.2.2.2.1, decide_eq_false (fun h => by omega), if_neg Bool.false_ne_true, e]; rfl
  · rw [if_neg (nI_ge (by omega) (by omega)), c_60]
    by_cases h60 : p < 60
    · rw [if_pos (nI_lt h60 (by omega)), if_neg (nI_ne0 (by omega) (by omega))]
      have hdg : (if (0 : Int32) = 0 then (some (x + 1)).bind fun v1 => zvs g v1 8 <| (f_X8_digitAt v1 (nI p) g).bind fun v2 => if v2 = (-1 : Int32) then (some (nI p)).map Sum.inr else some (.inl (nI ac, nI k + (-1 : Int32), nI p + (1 : Int32))) else (some (x + 1)).bind fun v3 => zvs g v3 8 <| (f_X8_wordAt v3 (nI p) g).bind fun v4 => if v4 = (-1 : Int32) then (some (nI p)).map Sum.inr else some (.inl (nI ac, nI k + (-1 : Int32), nI p + (1 : Int32)))) = if decide (p < 60 ∧ p < l.length ∧ 48 ≤ l.getD p 0 ∧ l.getD p 0 ≤ 57) = true then some (.inl (nI ac, nI (k - 1), nI (p + 1))) else some (.inr (nI p) : (Int32 × Int32 × Int32) ⊕ Int32) := by
        rw [if_pos rfl, Option.bind_some, p_vs hT.1, e_digitAt hT (by omega), Option.bind_some, nI_dec hk, c_1, nI_add]
        by_cases h1 : 48 ≤ l.getD p 0 ∧ l.getD p 0 ≤ 57
        · rw [dgv_y h1.1 h1.2, if_neg (show ¬ nI (l.getD p 0 - 48) = -nI 1 from fun h => (neg1_ne (a := l.getD p 0 - 48) (by omega)).mp h), decide_eq_true ⟨h60, by omega, h1⟩, if_pos rfl]
        · rw [(dgv_n hc).mpr (decide_eq_false h1), if_pos (show -nI 1 = -nI 1 from rfl), decide_eq_false (fun h => h1 h.2.2), if_neg Bool.false_ne_true]; rfl
      by_cases h1 : ac = 116
      · rw [if_pos (show nI ac = 116 by rw [h1]; rfl), if_neg (show ¬ nI k = 1 from fun h => ht ⟨h1, (nI_eq (b := 1) (by omega) (by omega)).mp h⟩)]
        exact hdg
      · rw [if_neg (show ¬ nI ac = 116 from fun h => h1 ((nI_eq (b := 116) (by omega) (by omega)).mp h))]
        exact hdg
    · rw [if_neg (nI_nlt (by omega) (by omega)), decide_eq_false (fun h => h60 h.1), if_neg Bool.false_ne_true]; rfl
/-- a letter is due -/
theorem b_letter {p : Nat} (hC : CJ x g A) (hT : XT g (x + 1) (x + 2) l) (hp : p ≤ l.length) : f_X11_badInTrial_7 N x (nI 116) (nI 1) (nI p) g = if tw l p = true then some (.inl (nI 116, nI 0, nI (p + 1))) else some (.inr (nI p)) := by
  have h80 := hT.2.2.2.2.1
  have hc := hT.c256 p
  unfold f_X11_badInTrial_7 f_X11_badInTrial_66 f_X11_badInTrial_67 f_X11_badInTrial_93 f_X11_badInTrial_102 f_X11_badInTrial_123 tw
  rw [p_rdR hC.1.s0, hC.1.r0_0, Option.bind_some, p_rdI hT.1, Option.bind_some, hT.2.2.2.1]
  by_cases e : p = l.length
  · rw [if_pos (nI_le (by omega) (by omega)), if_neg (show ¬ nI 1 = 0 by decide), Option.bind_some, p_rdI hT.1, Option.bind_some, hT.2.2.2.1, decide_eq_false (fun h => by omega), if_neg Bool.false_ne_true, e]; rfl
  · rw [if_neg (nI_ge (by omega) (by omega)), c_60]
    by_cases h60 : p < 60
    · rw [if_pos (nI_lt h60 (by omega)), if_neg (show ¬ nI 1 = 0 by decide), if_pos (show nI 116 = 116 from rfl), if_pos (show nI 1 = 1 from rfl), if_neg (show ¬ (1 : Int32) = 0 by decide), Option.bind_some, p_vs hT.1, e_wordAt hT (by omega), Option.bind_some]
      by_cases h1 : 97 ≤ l.getD p 0 ∧ l.getD p 0 ≤ 104
      · have hw : wdv (l.getD p 0) = nI (l.getD p 0 - 97) := by unfold wdv lt8; rw [decide_eq_true h1, if_pos rfl]
        rw [hw, if_neg (fun h => (neg1_ne (by omega)).mp h), decide_eq_true ⟨h60, by omega, h1⟩, if_pos rfl, c_1, nI_add]; rfl
      · rw [(wdv_n hc).mpr (decide_eq_false h1), if_pos (show -nI 1 = -1 from rfl), decide_eq_false (fun h => h1 h.2.2), if_neg Bool.false_ne_true]; rfl
    · rw [if_neg (nI_nlt (by omega) (by omega)), decide_eq_false (fun h => h60 h.1), if_neg Bool.false_ne_true]; rfl
/-- what the class finds wrong -/
def tV (l : List Nat) : Int32 := if tP l (tN l) = l.length then -1 else nI (fA l (tP l (tN l)))
theorem tr_acts {ac : Nat} (h : isA ac = true) : ac = 120 ∧ ta ac = 1 ∨ (ac = 100 ∨ ac = 107 ∨ ac = 115) ∧ ta ac = 2 ∨ ac = 109 ∧ ta ac = 3 ∨ ac = 116 ∧ ta ac = 3 := by
  rcases of_decide_eq_true h with h | h | h | h | h | h <;> subst h
  · exact Or.inr (Or.inl ⟨Or.inl rfl, rfl⟩)
  · exact Or.inr (Or.inl ⟨Or.inr (Or.inl rfl), rfl⟩)
  · exact Or.inr (Or.inr (Or.inl ⟨rfl, rfl⟩))
  · exact Or.inr (Or.inl ⟨Or.inr (Or.inr rfl), rfl⟩)
  · exact Or.inr (Or.inr (Or.inr ⟨rfl, rfl⟩))
  · exact Or.inl ⟨rfl, rfl⟩
theorem e_badT (hN : 10000 ≤ N) (hC : CJ x g A) (hT : XT g (x + 1) (x + 2) l) : f_X11_badInTrial N x g = some (tV l) := by
  have h80 := hT.2.2.2.2.1
  obtain ⟨n80, hg, hend, h60, hbad⟩ := tN_spec h80
  have key : ∀ (k i M : Nat) (a : Int32), i + k = tN l → 3 * k + 5 ≤ M → zloop (fun s => f_X11_badInTrial_7 N x s.1 s.2.1 s.2.2 g) M (a, nI 0, nI (tP l i)) = some (tV l) := by
    intro k
    induction k with
    | zero =>
      intro i M a hi hM
      have hi' : i = tN l := by omega
      subst hi'
      unfold tV
      by_cases e : tP l (tN l) = l.length
      · rw [if_pos e, e]
        obtain ⟨M', rfl⟩ : ∃ q, M = q + 1 := ⟨M - 1, by omega⟩
        exact zl_inr (b_end hC hT)
      · rw [if_neg e]
        have hlt : tP l (tN l) < l.length := by omega
        have hb := of_decide_eq_false (hbad hlt)
        generalize tP l (tN l) = e0 at *
        obtain ⟨M', rfl⟩ : ∃ q, M = q + 3 := ⟨M - 3, by omega⟩
        unfold fA
        by_cases h1 : e0 < 60 ∧ isA (l.getD e0 0) = true
        · have hac := hT.c256 e0
          obtain ⟨t1, t3⟩ := ta_13 (c := l.getD e0 0)
          have h2 : 2 ≤ ta (l.getD e0 0) := Decidable.byContradiction (fun h => hb ⟨h1.1, h1.2, fun h' => absurd h' h, fun h' => by omega⟩)
          rw [if_neg (fun h => h h1), zl_inl (b_start hC hT hlt h1.1 h1.2)]
          have hdig := b_digit (N := N) (p := e0 + 1) (k := ta (l.getD e0 0) - 1) (ac := l.getD e0 0) hC hT (by omega) (by omega) (by omega) hac (fun h => by
            have : ta (l.getD e0 0) = 3 := by rw [h.1]; rfl
            omega)
          by_cases h3 : td l (e0 + 1) = true
          · rw [if_neg (by rw [h3]; decide)]
            rw [if_pos h3] at hdig
            rw [zl_inl hdig]
            have h4 : ta (l.getD e0 0) = 3 := Decidable.byContradiction (fun h => hb ⟨h1.1, h1.2, fun _ => h3, fun h' => absurd h' h⟩)
            have h5 : t2 l e0 = false := by
              cases h : t2 l e0 with
              | false => rfl
              | true => exact absurd ⟨h1.1, h1.2, fun _ => h3, fun _ => h⟩ hb
            have hlen := td_n h3
            rw [show ta (l.getD e0 0) - 1 - 1 = 1 by omega]
            unfold t2 at h5
            by_cases h6 : l.getD e0 0 = 116
            · rw [if_pos h6] at h5
              rw [h6]
              have := b_letter (N := N) (p := e0 + 1 + 1) hC hT (by omega)
              rw [if_neg (by rw [show e0 + 1 + 1 = e0 + 2 from rfl, h5]; decide)] at this
              exact zl_inr this
            · rw [if_neg h6] at h5
              have := b_digit (N := N) (p := e0 + 1 + 1) (k := 1) (ac := l.getD e0 0) hC hT (by omega) (by omega) (by omega) hac (fun h => h6 h.1)
              rw [if_neg (by rw [show e0 + 1 + 1 = e0 + 2 from rfl, h5]; decide)] at this
              exact zl_inr this
          · have h3' : td l (e0 + 1) = false := Bool.eq_false_iff.mpr h3
            rw [if_pos h3']
            rw [if_neg h3] at hdig
            exact zl_inr hdig
        · rw [if_pos h1]
          exact zl_inr (b_startN hC hT hlt h1)
    | succ k ih =>
      intro i M a hi hM
      obtain ⟨hlt, hga⟩ := hg i (by omega)
      obtain ⟨g1, g2, g3, g4⟩ := of_decide_eq_true hga
      have hnext : tP l (i + 1) = tP l i + ta (l.getD (tP l i) 0) := rfl
      have ihn := fun M a hM => ih (i + 1) M a (by omega) hM
      rw [hnext] at ihn
      have hac := hT.c256 (tP l i)
      generalize tP l i = e0 at *
      obtain ⟨M', rfl⟩ : ∃ q, M = q + 3 := ⟨M - 3, by omega⟩
      rw [zl_inl (b_start hC hT hlt g1 g2)]
      rcases tr_acts g2 with ⟨h1, h2⟩ | ⟨h1, h2⟩ | ⟨h1, h2⟩ | ⟨h1, h2⟩
      · rw [h2]
        have := ihn (M' + 2) (nI (l.getD e0 0)) (by omega)
        rw [h2] at this
        exact this
      · have h3 := g3 (by omega)
        have hdig := b_digit (N := N) (p := e0 + 1) (k := ta (l.getD e0 0) - 1) (ac := l.getD e0 0) hC hT (by omega) (by omega) (by omega) hac (fun h => by omega)
        rw [if_pos h3] at hdig
        rw [zl_inl hdig, h2]
        have := ihn (M' + 1) (nI (l.getD e0 0)) (by omega)
        rw [h2] at this
        exact this
      · have h3 := g3 (by omega)
        have h4 := g4 h2
        unfold t2 at h4
        rw [if_neg (by omega)] at h4
        have hdig := b_digit (N := N) (p := e0 + 1) (k := ta (l.getD e0 0) - 1) (ac := l.getD e0 0) hC hT (by omega) (by omega) (by omega) hac (fun h => by omega)
        rw [if_pos h3] at hdig
        rw [zl_inl hdig, h2]
        have hlen := td_n h3
        have hdig2 := b_digit (N := N) (p := e0 + 1 + 1) (k := 1) (ac := l.getD e0 0) hC hT (by omega) (by omega) (by omega) hac (fun h => by omega)
        rw [if_pos h4] at hdig2
        rw [show (3 - 1 - 1 : Nat) = 1 from rfl, zl_inl hdig2]
        have := ihn M' (nI (l.getD e0 0)) (by omega)
        rw [h2] at this
        exact this
      · have h3 := g3 (by omega)
        have h4 := g4 h2
        unfold t2 at h4
        rw [if_pos h1] at h4
        have hdig := b_digit (N := N) (p := e0 + 1) (k := ta (l.getD e0 0) - 1) (ac := l.getD e0 0) hC hT (by omega) (by omega) (by omega) hac (fun h => by omega)
        rw [if_pos h3] at hdig
        rw [zl_inl hdig, h2]
        have hlen := td_n h3
        have hdig2 := b_letter (N := N) (p := e0 + 1 + 1) hC hT (by omega)
        rw [if_pos h4] at hdig2
        rw [show (3 - 1 - 1 : Nat) = 1 from rfl, h1, zl_inl hdig2]
        have := ihn M' (nI 116) (by omega)
        rw [h2] at this
        exact this
  unfold f_X11_badInTrial
  exact key (tN l) 0 N _ (by omega) (by omega)
end TR
