/-! ===== sheet ===== -/
theorem clamp (y : Int32) : ∃ k, k ≤ 9 ∧ (if (0 : Int32) < (if y < 9 then y else 9) then (if y < 9 then y else 9) else 0) = nI k := by
  cases h : rb y 0 10 with
  | true =>
    obtain ⟨k, -, hk, rfl⟩ := rb_t h (by omega)
    refine ⟨k, by omega, ?_⟩
    exact (by decide +kernel : ∀ k, k < 10 → (if (0 : Int32) < (if nI k < 9 then nI k else 9) then (if nI k < 9 then nI k else 9) else 0) = nI k) k hk
  | false =>
    rcases rb_f h (by omega) (by omega) with h' | h'
    · refine ⟨0, by omega, ?_⟩
      have h0 : y < 0 := h'
      rw [if_pos (Int32.lt_trans h0 (by decide)), if_neg (Int32.not_lt.mpr (Int32.le_of_lt h0))]; rfl
    · refine ⟨9, by omega, ?_⟩
      rw [if_neg (fun h0 => absurd (Int32.lt_of_le_of_lt h' h0) (by decide)), if_pos (by decide)]; rfl
noncomputable def kw (y : Int32) : Nat := Classical.choose (clamp y)
theorem kw_spec (y : Int32) : kw y ≤ 9 ∧ (if (0 : Int32) < (if y < 9 then y else 9) then (if y < 9 then y else 9) else 0) = nI (kw y) := Classical.choose_spec (clamp y)
def cu (s t : Int32) : Nat → Int32
  | 0 => s
  | i + 1 => cu s t i + t
def cv (v y : Int32) : Int32 := if v = 0 then y.toInt8.toInt32 else if v = 1 then y.toInt16.toInt32 else y
noncomputable def WS (v u s t : Int32) (w : Nat) : Nat := if v = 3 then 0 else if u ≤ nI w then 0 else kw (cv v (cu s t w))
theorem WS_9 {v u s t : Int32} {w : Nat} : WS v u s t w ≤ 9 := by
  unfold WS
  split
  · omega
  · split
    · omega
    · exact (kw_spec _).1
def swm (W : Nat → Nat) : Nat → Nat
  | 0 => 0
  | k + 1 => swm W k + W k
section SH
variable {N x m c : Nat} {g g1 g2 g3 g' : ZS} {A : ZA}
theorem e_asWorth {v y : Int32} : f_X11_asWorth v y = some (nI (kw (cv v y))) := by
  have h : ∀ y : Int32, f_X11_asWorth_20 y = some (nI (kw y)) := fun y => by
    unfold f_X11_asWorth_20
    rw [mn, Option.bind_some, mx, Option.bind_some, (kw_spec y).2]
  unfold f_X11_asWorth cv
  by_cases h0 : v = 0
  · rw [if_pos h0, if_pos h0, h]
  · rw [if_neg h0, if_neg h0]
    by_cases h1 : v = 1
    · rw [if_pos h1, if_pos h1, h]
    · rw [if_neg h1, if_neg h1, h]
theorem c_fill {v n s t : Int32} (hN : 10000 ≤ N) (hL : LC x (zh g)) : zW (f_X11_fillWorths N x v n s t g) (fun g' => zJ (fun a _ => a = x + 12) g g' ∧ ∀ w, w < 8 → zgi g' (x + 12) w = nI (if n ≤ nI w then 0 else kw (cv v (cu s t w)))) := by
  unfold f_X11_fillWorths
  refine zW_for (fun i (q : Int32 × Int32 × ZS) => q.1 = cu s t i ∧ q.2.1 = nI i ∧ zJ (fun a _ => a = x + 12) g q.2.2 ∧ ∀ w, w < i → zgi q.2.2 (x + 12) w = nI (if n ≤ nI w then 0 else kw (cv v (cu s t w)))) 8 (fun i q hi hq => ?_) (fun q hq => ?_) (by omega) (Nat.zero_le _) ⟨rfl, rfl, zJ.rfl, fun w hw => by omega⟩
  · obtain ⟨q1, q2, g1⟩ := q
    obtain ⟨e1, e2, J1, a1⟩ := hq
    dsimp only at e1 e2 J1 a1
    subst e1; subst e2
    show zW (f_X11_fillWorths_6 N x v n t (cu s t i) (nI i) g1) _
    unfold f_X11_fillWorths_6 f_X11_fillWorths_35
    rw [c_8, if_neg (nI_ge hi (by omega))]
    refine w_rdR (by rw [J1.sh]; exact hL.s0) (by rw [J1.gr]; exact hL.r0_3) ?_
    have fin : ∀ k : Nat, k = (if n ≤ nI i then 0 else kw (cv v (cu s t i))) → zW ((zast 20 g1 (x + 12) (nI i) (nI k)).bind fun g1 => some (.inl (cu s t i + t, nI i + (1 : Int32), g1))) (zI (fun (q : Int32 × Int32 × ZS) => q.1 = cu s t (i + 1) ∧ q.2.1 = nI (i + 1) ∧ zJ (fun a _ => a = x + 12) g q.2.2 ∧ ∀ w, w < i + 1 → zgi q.2.2 (x + 12) w = nI (if n ≤ nI w then 0 else kw (cv v (cu s t w)))) (fun g' => zJ (fun a _ => a = x + 12) g g' ∧ ∀ w, w < 8 → zgi g' (x + 12) w = nI (if n ≤ nI w then 0 else kw (cv v (cu s t w))))) := by
      intro k hk
      rw [w20_8 (by rw [J1.sh]; exact hL.s12) hi, Option.bind_some, zW_some, zI_inl, c_1, nI_add]
      refine ⟨rfl, rfl, J1.setI' rfl, fun w hw => ?_⟩
      dsimp only
      by_cases e : w = i
      · subst e; rw [gi_sI, if_pos ⟨rfl, rfl⟩, hk]
      · rw [gi_sI, if_neg (by omega)]; exact a1 w (by omega)
    by_cases h : n ≤ nI i
    · rw [if_pos h]; exact fin 0 (if_pos h).symm
    · rw [if_neg h, e_asWorth, Option.bind_some]; exact fin _ (if_neg h).symm
  · obtain ⟨q1, q2, g1⟩ := q
    obtain ⟨e1, e2, J1, a1⟩ := hq
    dsimp only at e1 e2 J1 a1
    subst e2
    show zW (f_X11_fillWorths_6 N x v n t q1 (nI 8) g1) _
    unfold f_X11_fillWorths_6
    rw [c_8, if_pos (nI_le (Nat.le_refl _) (by omega)), Option.map_some, zW_some, zI_inr]
    exact ⟨J1, a1⟩
theorem e_sumW (hN : 10000 ≤ N) (hC : CJ x g A) : f_X11_sumOfWorths N x g = some (nI (swm (aW A) 8)) := by
  unfold f_X11_sumOfWorths
  have := loopA (body := fun s => f_X11_sumOfWorths_4 N x s.1 s.2 g) (fun i (_ : Int32) => nI (swm (aW A) (i + 1))) 8 (fun a => a) (fun i a => a = nI (swm (aW A) i)) (a := nI 0) rfl (fun i y hi hy => ⟨?_, rfl⟩) (fun y hy => ?_) (show 8 < N by omega)
  · exact this
  · show f_X11_sumOfWorths_4 N x y (nI i) g = _
    unfold f_X11_sumOfWorths_4
    rw [c_8, if_neg (nI_ge hi (by omega)), p_rdR hC.1.s0, hC.1.r0_3, Option.bind_some, a20_8 hC.1.s12 hi, Option.bind_some, hC.2.2.2.1 i hi, hy, nI_add, c_1, nI_add]
    rfl
  · show f_X11_sumOfWorths_4 N x y (nI 8) g = _
    unfold f_X11_sumOfWorths_4
    rw [c_8, if_pos (nI_le (Nat.le_refl _) (by omega)), Option.map_some]
theorem r_sheet {v u s t : Int32} (hN : 10000 ≤ N) (hL : LR m (zh g)) : zW (f_X12_sheet_34 N m v u s t g) (fun o => o.1 = (if v = 3 then -3 else nI (swm (WS v u s t) 8)) ∧ zJ (fun a _ => a = m + 3) g o.2 ∧ ∀ w, w < 8 → zgi o.2 (m + 3) w = nI (WS v u s t w)) := by
  unfold f_X12_sheet_34
  refine zW_for (fun i (q : Int32 × Int32 × Int32 × ZS) => q.1 = nI (swm (WS v u s t) i) ∧ q.2.1 = cu s t i ∧ q.2.2.1 = nI i ∧ zJ (fun a _ => a = m + 3) g q.2.2.2 ∧ ∀ w, w < i → zgi q.2.2.2 (m + 3) w = nI (WS v u s t w)) 8 (fun i q hi hq => ?_) (fun q hq => ?_) (by omega) (Nat.zero_le _) ⟨rfl, rfl, rfl, zJ.rfl, fun w hw => by omega⟩
  · obtain ⟨q0, q1, q2, g1⟩ := q
    obtain ⟨e0, e1, e2, J1, a1⟩ := hq
    dsimp only at e0 e1 e2 J1 a1
    subst e0; subst e1; subst e2
    show zW (f_X12_sheet_43 N m v u t (nI (swm (WS v u s t) i)) (cu s t i) (nI i) g1) _
    have s0 : zsh g1 m = some (12, 0) := by rw [J1.sh]; exact hL.s0
    have s3 : zsh g1 (m + 3) = some (20, 8) := by rw [J1.sh]; exact hL.s3
    have r3 : zgr g1 m 3 = some (m + 3) := by rw [J1.gr]; exact hL.r3
    have fin : ∀ k : Nat, k = WS v u s t i → zW (f_X12_sheet_107 N m v u t (nI (swm (WS v u s t) i)) (cu s t i) (nI i) (m + 3) (nI i) (nI k) g1) (zI (fun (q : Int32 × Int32 × Int32 × ZS) => q.1 = nI (swm (WS v u s t) (i + 1)) ∧ q.2.1 = cu s t (i + 1) ∧ q.2.2.1 = nI (i + 1) ∧ zJ (fun a _ => a = m + 3) g q.2.2.2 ∧ ∀ w, w < i + 1 → zgi q.2.2.2 (m + 3) w = nI (WS v u s t w)) (fun (o : Int32 × ZS) => o.1 = (if v = 3 then -3 else nI (swm (WS v u s t) 8)) ∧ zJ (fun a _ => a = m + 3) g o.2 ∧ ∀ w, w < 8 → zgi o.2 (m + 3) w = nI (WS v u s t w))) := by
      intro k hk
      unfold f_X12_sheet_107
      rw [w20_8 s3 hi, Option.bind_some]
      refine w_rdR (by exact s0) (by exact r3) ?_
      rw [a20_8 (by exact s3) hi, gi_sI, if_pos ⟨rfl, rfl⟩, Option.bind_some, zW_some, zI_inl, nI_add, c_1, nI_add, hk]
      refine ⟨rfl, rfl, rfl, J1.setI' rfl, fun w hw => ?_⟩
      dsimp only
      by_cases e : w = i
      · subst e; rw [gi_sI, if_pos ⟨rfl, rfl⟩]
      · rw [gi_sI, if_neg (by omega)]; exact a1 w (by omega)
    have step : ∀ y, y = cv v (cu s t i) → zW (f_X12_sheet_73 N m v u t (nI (swm (WS v u s t) i)) (cu s t i) (nI i) y g1) (zI (fun (q : Int32 × Int32 × Int32 × ZS) => q.1 = nI (swm (WS v u s t) (i + 1)) ∧ q.2.1 = cu s t (i + 1) ∧ q.2.2.1 = nI (i + 1) ∧ zJ (fun a _ => a = m + 3) g q.2.2.2 ∧ ∀ w, w < i + 1 → zgi q.2.2.2 (m + 3) w = nI (WS v u s t w)) (fun (o : Int32 × ZS) => o.1 = (if v = 3 then -3 else nI (swm (WS v u s t) 8)) ∧ zJ (fun a _ => a = m + 3) g o.2 ∧ ∀ w, w < 8 → zgi o.2 (m + 3) w = nI (WS v u s t w))) := by
      intro y hy
      unfold f_X12_sheet_73 f_X12_sheet_92
      refine w_rdR s0 r3 ?_
      by_cases h3 : v = 3
      · rw [if_pos h3]; exact fin 0 (by unfold WS; rw [if_pos h3])
      · rw [if_neg h3]
        by_cases hu : nI i < u
        · rw [if_pos hu, mn, Option.bind_some, mx, Option.bind_some, (kw_spec y).2]
          exact fin (kw y) (by unfold WS; rw [if_neg h3, if_neg (Int32.not_le.mpr hu), hy])
        · rw [if_neg hu]; exact fin 0 (by unfold WS; rw [if_neg h3, if_pos (Int32.not_lt.mp hu)])
    unfold f_X12_sheet_43
    rw [c_8, if_neg (nI_ge hi (by omega))]
    by_cases h0 : v = 0
    · rw [if_pos h0]; exact step _ (by unfold cv; rw [if_pos h0])
    · rw [if_neg h0]
      by_cases h1 : v = 1
      · rw [if_pos h1]; exact step _ (by unfold cv; rw [if_neg h0, if_pos h1])
      · rw [if_neg h1]; exact step _ (by unfold cv; rw [if_neg h0, if_neg h1])
  · obtain ⟨q0, q1, q2, g1⟩ := q
    obtain ⟨e0, e1, e2, J1, a1⟩ := hq
    dsimp only at e0 e1 e2 J1 a1
    subst e0; subst e2
    show zW (f_X12_sheet_43 N m v u t (nI (swm (WS v u s t) 8)) q1 (nI 8) g1) _
    unfold f_X12_sheet_43 f_X12_sheet_145
    rw [c_8, if_pos (nI_le (Nat.le_refl _) (by omega)), zW_map]
    by_cases h3 : v = 3
    · rw [if_pos h3, if_pos h3, zW_some]; exact ⟨rfl, J1, a1⟩
    · rw [if_neg h3, if_neg h3, zW_some]; exact ⟨rfl, J1, a1⟩
theorem k_sheet (hN : 10000 ≤ N) (v u s t : Int32) : Call (fun x g => f_X11_sheet N x v u s t g) (fun m g => f_X12_sheet N m v u s t g) := call_s (fun x m c g A hC hA hc => by
  have hL := hC.1.1
  have finC : ∀ a : Int32, zW (some (a, g)) (fun o => o.1 = a ∧ zX x (x + 581) g o.2 ∧ CI x o.2 A) := fun a => zW_some.mpr ⟨rfl, zX.rfl, hC⟩
  have e03 : ∀ v : Int32, f_X12_in v (0 : Int32) (3 : Int32) = some (bI (rb v 0 (3 + 1))) := fun v => e_inz (hi := 3) (by omega)
  have runC : ∀ Z : Int32 × ZS → Prop, rb v 0 (3 + 1) = true → zW (if u ≤ (8 : Int32) then (if v = (3 : Int32) then zvs g x 11 <| (f_X11_fillWorths N x v (0 : Int32) s t g).bind fun g3 => some ((-3 : Int32), g3) else (if 0 ≤ u then zvs g x 11 <| (f_X11_fillWorths N x v u s t g).bind fun g1 => zvs g1 x 11 <| (f_X11_sumOfWorths N x g1).bind fun v2 => some (v2, g1) else some ((-2 : Int32), g))) else some ((-1 : Int32), g)) Z → zW (f_X11_sheet N x v u s t g) Z := by
    intro Z hv hZ
    unfold f_X11_sheet f_X11_sheet_15
    have := rngA (v := v) (lo := 0) (hi := 3) (a := some ((-1 : Int32), g)) (b := (if u ≤ (8 : Int32) then (if v = (3 : Int32) then zvs g x 11 <| (f_X11_fillWorths N x v (0 : Int32) s t g).bind fun g3 => some ((-3 : Int32), g3) else (if 0 ≤ u then zvs g x 11 <| (f_X11_fillWorths N x v u s t g).bind fun g1 => zvs g1 x 11 <| (f_X11_sumOfWorths N x g1).bind fun v2 => some (v2, g1) else some ((-2 : Int32), g))) else some ((-1 : Int32), g))) (by omega) (by omega)
    rw [if_pos hv] at this
    rw [← this] at hZ; exact hZ
  have refR : ∀ g', RI m g' A → ∀ Z : Int32 × ZS → Prop, (∀ g1, zM m (ScM m) g' g1 → RI m g1 A → rb v 0 (3 + 1) = true ∧ zW (if u ≤ (8 : Int32) then (if (3 : Int32) ≤ v then f_X12_sheet_34 N m v u s t g1 else (if 0 ≤ u then f_X12_sheet_34 N m v u s t g1 else some ((-2 : Int32), g1))) else some ((-1 : Int32), g1)) Z) → zW (f_X12_sheet N m v u s t g') Z := by
    intro g' hR Z hZ
    unfold f_X12_sheet f_X12_sheet_20
    refine r_start hR hA (fun g1 J0 hR1 _ => ?_)
    obtain ⟨hv, h⟩ := hZ g1 J0 hR1
    rw [e03, Option.bind_some, if_neg (bI_ne hv)]
    exact h
  have finR : ∀ g' g1 (a : Int32), zM m (ScM m) g' g1 → RI m g1 A → zW (some (a, g1)) (fun o => o.1 = a ∧ zX m (m + 33) g' o.2 ∧ RI m o.2 A) := fun g' g1 a J0 hR1 => zW_some.mpr ⟨rfl, J0.toX (fun a j z => scm_in z) (by omega), hR1⟩
  have goR : ∀ g' g1 (a : Int32), a = (if v = 3 then -3 else nI (swm (WS v u s t) 8)) → zM m (ScM m) g' g1 → RI m g1 A → zW (f_X12_sheet_34 N m v u s t g1) (fun o => o.1 = a ∧ zX m (m + 33) g' o.2 ∧ RI m o.2 (sW A (WS v u s t))) := by
    intro g' g1 a ha J0 hR1
    refine (r_sheet hN hR1.1.1).mono (fun o ho => ?_)
    obtain ⟨o1, J2, e2⟩ := ho
    exact ⟨o1.trans ha.symm, (J0.toX (fun a j z => scm_in z) (by omega)).trans (J2.toX (fun a j z => by omega)), hR1.1.setW hA ((J2.toM (m := m)).mono (fun a j z => Or.inr z)) e2, hR1.2.keepM (J2.toM (m := m)) (by omega) (fun j => by omega)⟩
  cases hv : rb v 0 (3 + 1) with
  | false =>
    refine ⟨-1, A, hA.mono (Nat.le_succ c), ?_, fun g' hR => ?_⟩
    · unfold Cc f_X11_sheet f_X11_sheet_15
      by_cases h : v < 0
      · rw [if_pos h]; exact finC _
      · rw [if_neg h]
        rcases rb_f hv (by omega) (by omega) with h' | h'
        · exact absurd h' h
        · rw [if_pos (show (3 : Int32) < v from Int32.lt_of_lt_of_le (show (3 : Int32) < nI (3 + 1) by decide) h')]; exact finC _
    · unfold Rc f_X12_sheet f_X12_sheet_20
      refine r_start hR hA (fun g1 J0 hR1 _ => ?_)
      rw [e03, Option.bind_some, if_pos (bI_eq hv)]
      exact finR g' g1 _ J0 hR1
  | true =>
    obtain ⟨k, -, hk, hvk⟩ := rb_t hv (by omega)
    by_cases hu8 : u ≤ (8 : Int32)
    · by_cases h3 : v = 3
      · refine ⟨-3, sW A (WS v u s t), (hA.setW (fun w _ => WS_9)).mono (Nat.le_succ c), runC _ hv ?_, fun g' hR => refR g' hR _ (fun g1 J0 hR1 => ⟨hv, ?_⟩)⟩
        · rw [if_pos hu8, if_pos h3]
          refine w_vs hL.s0 ((c_fill hN hL).bind (fun g2 h2 => ?_))
          obtain ⟨J2, e2⟩ := h2
          rw [zW_some]
          refine ⟨rfl, J2.toX (fun a j z => by omega), hC.1.setW hA (J2.mono (fun a j z => Or.inr z)) (fun w hw => ?_), hC.2.stay J2 (fun a j z => by omega)⟩
          rw [e2 w hw, c_0, if_pos (nI_le (by omega) (by omega))]
          unfold WS; rw [if_pos h3]
        · rw [if_pos hu8, if_pos (show (3 : Int32) ≤ v by rw [h3]; decide)]
          exact goR g' g1 (-3) (if_pos h3).symm J0 hR1
      · have h3v : ¬ (3 : Int32) ≤ v := fun h => by
          rw [hvk] at h h3
          have : k ≠ 3 := fun e => h3 (by rw [e]; rfl)
          exact nI_ge (show k < 3 by omega) (by omega) h
        by_cases hu0 : 0 ≤ u
        · refine ⟨nI (swm (WS v u s t) 8), sW A (WS v u s t), (hA.setW (fun w _ => WS_9)).mono (Nat.le_succ c), runC _ hv ?_, fun g' hR => refR g' hR _ (fun g1 J0 hR1 => ⟨hv, ?_⟩)⟩
          · rw [if_pos hu8, if_neg h3, if_pos hu0]
            refine w_vs hL.s0 ((c_fill hN hL).bind (fun g2 h2 => ?_))
            obtain ⟨J2, e2⟩ := h2
            have C2 : CJ x g2 (sW A (WS v u s t)) := hC.1.setW hA (J2.mono (fun a j z => Or.inr z)) (fun w hw => by rw [e2 w hw]; unfold WS; rw [if_neg h3])
            refine w_vs C2.1.s0 (w_eq (e_sumW hN C2) ?_)
            rw [zW_some]
            exact ⟨rfl, J2.toX (fun a j z => by omega), C2, hC.2.stay J2 (fun a j z => by omega)⟩
          · rw [if_pos hu8, if_neg h3v, if_pos hu0]
            exact goR g' g1 _ (if_neg h3).symm J0 hR1
        · refine ⟨-2, A, hA.mono (Nat.le_succ c), runC _ hv ?_, fun g' hR => refR g' hR _ (fun g1 J0 hR1 => ⟨hv, ?_⟩)⟩
          · rw [if_pos hu8, if_neg h3, if_neg hu0]; exact finC _
          · rw [if_pos hu8, if_neg h3v, if_neg hu0]; exact finR g' g1 _ J0 hR1
    · refine ⟨-1, A, hA.mono (Nat.le_succ c), runC _ hv ?_, fun g' hR => refR g' hR _ (fun g1 J0 hR1 => ⟨hv, ?_⟩)⟩
      · rw [if_neg hu8]; exact finC _
      · rw [if_neg hu8]; exact finR g' g1 _ J0 hR1)
end SH
