/-! ===== stay, alters ===== -/
theorem zleast_eq {P : Nat → Bool} {n k : Nat} (h1 : ∀ j, j < k → P j = false) (h2 : k < n) (h3 : P k = true) : zleast P n 0 = k := by
  obtain ⟨a1, a2, a3, a4⟩ := zleast_spec P n 0
  rcases Nat.lt_trichotomy (zleast P n 0) k with h | h | h
  · have := a4 (by omega); rw [h1 _ h] at this; cases this
  · exact h
  · have := a3 k (by omega) h; rw [h3] at this; cases this
theorem zleast_none {P : Nat → Bool} {n : Nat} (h1 : ∀ j, j < n → P j = false) : zleast P n 0 = n := by
  obtain ⟨a1, a2, a3, a4⟩ := zleast_spec P n 0
  by_cases h : zleast P n 0 < n
  · have := a4 (by omega); rw [h1 _ h] at this; cases this
  · omega
def stB (b : ZB) (h : Nat) : ZB := (h, 0, bn b, bo b, bO b, bF b, bL b, bT b)
theorem stB_BI {b : ZB} {h : Nat} (hb : BI b) (hh : h < 4) : BI (stB b h) := ⟨hh, by show 0 ≤ 1; omega, hb.2.2.1, hb.2.2.2.1, hb.2.2.2.2⟩
section K7
variable {N : Nat}
theorem k_stay (hN : 10000 ≤ N) (v z u : Int32) : Call (fun x g => f_X11_stay N x v z u g) (fun m g => f_X12_stay N m v z u g) := call_q (fun x m c g A hC hA hc => by
  have n6 := hA.1.1
  have hd := bnd hA hc
  by_cases hvu : rb v 0 (an A) = true ∧ rb z 0 4 = true ∧ rb u 0 8 = true
  · obtain ⟨hv, hz, hu⟩ := hvu
    obtain ⟨p, -, hp, rfl⟩ := rb_t hv (by omega)
    obtain ⟨h, -, hh, rfl⟩ := rb_t hz (by omega)
    obtain ⟨w, -, hw, rfl⟩ := rb_t hu (by omega)
    have me8 := (hA.1.2.1 p hp).2
    have hBp := hA.1.2.2.1 p hp
    obtain ⟨B', hB'⟩ : ∃ B' : Nat → ZB, B' = fun q => if q = p then stB (aB A p) h else aB A q := ⟨_, rfl⟩
    have hBp' : B' p = stB (aB A p) h := by rw [hB']; exact if_pos rfl
    have hBq : ∀ q, q ≠ p → B' q = aB A q := fun q hq => by rw [hB']; exact if_neg hq
    have hSI : SI (an A) B' := fun q hq => by
      by_cases e : q = p
      · rw [e, hBp']; exact stB_BI hBp hh
      · rw [hBq q e]; exact hA.1.2.2.1 q hq
    have hBI := fun k => goB_SI (H := aH A) (d := ad A) hSI k p hp
    have hlt := fun k j hj => (sayA_lt (A := A) (b := goB (aH A) k B' (ad A) p) (me := ame A p) (j := j) hj).1
    obtain ⟨P, hPd⟩ : ∃ P : Nat → Bool, P = fun k => isF (sayA A (goB (aH A) k B' (ad A) p) (ame A p)) w := ⟨_, rfl⟩
    have hPe : ∀ k, isF (sayA A (goB (aH A) k B' (ad A) p) (ame A p)) w = P k := fun k => by rw [hPd]
    refine ⟨if zleast P 61 0 < 61 then nI (zleast P 61 0) else -nI 2, aR A, hA.2.2.2.2.1, ?_, fun g' hR => ?_⟩
    · unfold QC f_X11_stay
      refine w_vs hC.1.1.s0 (w_eq (e_ip11 hC.1 hA) ?_)
      rw [if_neg (bI_ne hv), e_ih11, Option.bind_some, if_neg (bI_ne hz), e_iw11, Option.bind_some, if_neg (bI_ne hu)]
      refine c_copy hC.1 hA hp (fun g1 J1 B1 M1 C1 => ?_)
      refine w_rdR C1.1.s0 C1.1.r0_11 ?_
      rw [p_wrI C1.1.BL475.f.1, Option.bind_some]
      refine w_rdR (by exact C1.1.s0) (by exact C1.1.r0_11) ?_
      rw [p_wrZ0 (by exact C1.1.BL475.f.1), Option.bind_some, c_0]
      have J2 : zJ (fun a j => a = x + 475 ∧ (j = 4 ∨ j = 6)) g1 (zsetI (zsetI g1 (x + 475) 4 (nI h)) (x + 475) 6 (nI 0)) := (zJ.setI (by omega)).setI' (by omega)
      have hb0 : CB (zsetI (zsetI g1 (x + 475) 4 (nI h)) (x + 475) 6 (nI 0)) (x + 475) (goB (aH A) 0 B' (ad A) p) := by
        show CB _ _ (B' p)
        rw [hBp']
        obtain ⟨q1, q2, q3, q4, q5⟩ := B1
        refine ⟨by rw [gi_sI, if_neg (by omega), gi_sI, if_pos ⟨rfl, rfl⟩]; rfl, by rw [gi_sI, if_pos ⟨rfl, rfl⟩]; rfl, by rw [J2.gi (by omega)]; exact q3, by rw [J2.gi (by omega)]; exact q4, fun y hy => ?_⟩
        obtain ⟨y1, y2, y3, y4⟩ := q5 y hy
        exact ⟨by rw [J2.gi (by omega)]; exact y1, by rw [J2.gi (by omega)]; exact y2, by rw [J2.gi (by omega)]; exact y3, by rw [J2.gi (by omega)]; exact y4⟩
      have hJ2 : zJ (fun a j => SFc x (x + 480) a j ∨ x + 475 ≤ a ∧ a < x + 480) g (zsetI (zsetI g1 (x + 475) 4 (nI h)) (x + 475) 6 (nI 0)) := (J1.mono (fun a j z => Or.inr z)).trans (J2.mono (fun a j z => by omega))
      refine zW_forI (fun i g2 => zJ (fun a j => SFc x (x + 480) a j ∨ x + 475 ≤ a ∧ a < x + 480) g g2 ∧ CB g2 (x + 475) (goB (aH A) i B' (ad A) p) ∧ zgi g2 (x + 475) 5 = nI (ame A p) ∧ CJ x g2 A ∧ ∀ k, k < i → P k = false) 61 (fun i g2 hi hI => ?_) (fun g2 hI => ?_) (by omega) (Nat.zero_le _) ⟨hJ2, hb0, by rw [J2.gi (by omega)]; exact M1, C1.keep hA J2 (fun a j z => by omega), fun k hk => by omega⟩
      · obtain ⟨J3, B3, M3, C3, hP⟩ := hI
        show zW (f_X11_stay_59 N x (nI w) (nI i) g2) _
        unfold f_X11_stay_59
        rw [c_60, if_neg (nI_nlt (by omega) (by omega))]
        refine c_sayS hN C3 hA B3 (hBI i) M3 me8 (Or.inl ⟨rfl, rfl⟩) (fun g4 J4 T4 C4 => ?_)
        refine w_rdR C4.1.s0 C4.1.r0_12 (w_vs C4.1.TL480.f.1 ?_)
        rw [c_0]
        refine w_eq (e_tat C4.1.TL480 T4 (by omega)) ?_
        have hx := isF_at (w := w) (l := sayA A (goB (aH A) i B' (ad A) p) (ame A p)) (hlt i) (by omega)
        rw [hPe] at hx
        have hJ4 := J3.trans (J4.mono (fun a j z => Or.inl z))
        cases hf : P i with
        | true =>
          rw [if_pos (hx.mpr hf), Option.map_some, zW_some, zI_inr, zleast_eq hP hi hf, if_pos hi]
          exact ⟨rfl, hJ4.mono (fun a j z => by omega), hC.2.stay hJ4 (fun a j z => by omega)⟩
        | false =>
          rw [if_neg (fun h => by rw [hx.mp h] at hf; cases hf)]
          have B4 := B3.keepJ J4 (fun a j z y => by have := z.1; have := z.2.1; omega)
          have M4 : zgi g4 (x + 475) 5 = nI (ame A p) := by rw [J4.gi (by omega)]; exact M3
          refine w_rdR C4.1.s0 C4.1.r0_11 (w_rdR C4.1.s0 C4.1.r0_6 (w_rdI C4.1.SL23.f.1 C4.2.2.2.2.2.1.1.2.1 ?_))
          rw [nI_add]
          refine c_listenS C4 hA B4 (hBI i) M4 (by omega) (fun g5 J5 B5 M5 C5 => ?_)
          rw [zW_some, zI_inl, c_1, nI_add]
          refine ⟨rfl, hJ4.trans (J5.mono (fun a j z => Or.inr z)), B5, M5, C5, fun k hk => ?_⟩
          by_cases e : k = i
          · subst e; exact hf
          · exact hP k (by omega)
      · obtain ⟨J3, B3, M3, C3, hP⟩ := hI
        show zW (f_X11_stay_59 N x (nI w) (nI 61) g2) _
        unfold f_X11_stay_59
        rw [c_60, if_pos (nI_lt (by omega) (by omega)), Option.map_some, zW_some, zI_inr, zleast_none hP, if_neg (by omega)]
        exact ⟨rfl, J3.mono (fun a j z => by omega), hC.2.stay J3 (fun a j z => by omega)⟩
    · unfold QF f_X12_stay f_X12_of
      refine r_start hR hA (fun g1 J0 hR1 _ => ?_)
      refine w_vs hR1.1.1.s0 (w_eq (e_ip hR1.1 hA) ?_)
      rw [if_neg (bI_ne hv), e_ih12, Option.bind_some, if_neg (bI_ne hz), e_iw12, Option.bind_some, if_neg (bI_ne hu)]
      refine r_then hN hR1.1 hA (fun g2 J2 T2 R2 => ?_)
      refine w_rdR R2.1.s0 R2.1.r28 (w_eq rfl ?_)
      rw [c_36, c_0, nI_mul, nI_add, w20_217 R2.1.s17 (by omega), Option.bind_some]
      refine w_rdR (by exact R2.1.s0) (by exact R2.1.r28) (w_eq rfl ?_)
      rw [c_1, nI_add, w20_217 (by exact R2.1.s17) (by omega), Option.bind_some]
      have J3 : zJ (Sa (m + 17)) g2 (zsetI (zsetI g2 (m + 17) (36 * p + 0) (nI h)) (m + 17) (36 * p + 1) (nI 0)) := (zJ.setI (S := Sa (m + 17)) rfl).setI' rfl
      have J3' : zJ (fun a j => a = m + 17 ∧ (j = 36 * p ∨ j = 36 * p + 1)) g2 (zsetI (zsetI g2 (m + 17) (36 * p + 0) (nI h)) (m + 17) (36 * p + 1) (nI 0)) := (zJ.setI (by omega)).setI' (by omega)
      have T3 : RN (zsetI (zsetI g2 (m + 17) (36 * p + 0) (nI h)) (m + 17) (36 * p + 1) (nI 0)) (m + 17) (an A) (ad A) B' := by
        refine ⟨by rw [J3'.gi (by omega)]; exact T2.1, fun q hq => ?_⟩
        by_cases e : q = p
        · subst e
          rw [hBp']
          obtain ⟨q1, q2, q3, q4, q5⟩ := T2.2 q hq
          refine ⟨by rw [gi_sI, if_neg (by omega), gi_sI, if_pos ⟨rfl, by omega⟩]; rfl, by rw [gi_sI, if_pos ⟨rfl, rfl⟩]; rfl, by rw [J3'.gi (by omega)]; exact q3, by rw [J3'.gi (by omega)]; exact q4, fun y hy => ?_⟩
          obtain ⟨y1, y2, y3, y4⟩ := q5 y hy
          exact ⟨by rw [J3'.gi (by omega)]; exact y1, by rw [J3'.gi (by omega)]; exact y2, by rw [J3'.gi (by omega)]; exact y3, by rw [J3'.gi (by omega)]; exact y4⟩
        · rw [hBq q e]
          exact (T2.2 q hq).keepJ J3' (fun j x y z => by omega)
      have hJ3 : zM m (fun a j => SY m (m + 12) a j ∨ a = m + 17) g1 (zsetI (zsetI g2 (m + 17) (36 * p + 0) (nI h)) (m + 17) (36 * p + 1) (nI 0)) := ((J2.trans J3).toM (m := m)).mono (fun a j z => Or.inr z)
      refine zW_forI (fun i g2 => zM m (fun a j => SY m (m + 12) a j ∨ a = m + 17) g1 g2 ∧ RN g2 (m + 17) (an A) (ad A + i) (goB (aH A) i B' (ad A)) ∧ RJ m g2 A ∧ ∀ k, k < i → P k = false) 61 (fun i g3 hi hI => ?_) (fun g3 hI => ?_) (by omega) (Nat.zero_le _) ⟨hJ3, T3, R2.keep hA J3.toM (fun a j z => by omega), fun k hk => by omega⟩
      · obtain ⟨J4, T4, R4, hP⟩ := hI
        show zW (f_X12_stay_66 N m (nI p) (nI w) (nI i) g3) _
        unfold f_X12_stay_66
        rw [c_60, if_neg (nI_nlt (by omega) (by omega))]
        refine w_rdR R4.1.s0 R4.1.r28 (w_vs R4.1.s0 ?_)
        refine (r_isFirst hN R4 hA (Or.inr rfl) hp (T4.2 p hp) (hBI i) (by omega)).bind (fun o ho => ?_)
        obtain ⟨o1, J5, R5⟩ := ho
        rw [hPe] at o1
        have hJ5 := J4.trans (J5.mono (S' := fun a j => SY m (m + 12) a j ∨ a = m + 17) (fun a j z => Or.inl z))
        cases hf : P i with
        | true =>
          rw [hf] at o1
          rw [o1, if_neg (bI_ne rfl), Option.map_some, zW_some, zI_inr, zleast_eq hP hi hf, if_pos hi]
          exact ⟨rfl, J0.trans (hJ5.mono (fun a j z => by omega)), hR1.2.keepM hJ5 (by omega) (fun j => by omega)⟩
        | false =>
          rw [hf] at o1
          rw [o1, if_pos (bI_eq rfl)]
          have T5 : RN o.2 (m + 17) (an A) (ad A + i) (goB (aH A) i B' (ad A)) := T4.keepM n6 J5 (fun j _ => by omega)
          refine w_rdR R5.1.s0 R5.1.r28 (w_vs R5.1.s0 ?_)
          rw [c_1]
          refine (s_goDays (k := 1) hN R5.1 R5.1.s17 R5.2.2.2.2.1 hA.2.1.2 R5.2.2.2.2.2.2.1.1 T5 (goB_SI hSI i) n6 (by omega) (by omega) (by omega)).bind (fun g6 h6 => ?_)
          obtain ⟨J6, T6⟩ := h6
          rw [zW_some, zI_inl, nI_add]
          refine ⟨rfl, hJ5.trans ((J6.toM (m := m)).mono (fun a j z => Or.inr z)), T6, R5.keep hA J6.toM (fun a j z => by omega), fun k hk => ?_⟩
          by_cases e : k = i
          · subst e; exact hf
          · exact hP k (by omega)
      · obtain ⟨J4, T4, R4, hP⟩ := hI
        show zW (f_X12_stay_66 N m (nI p) (nI w) (nI 61) g3) _
        unfold f_X12_stay_66
        rw [c_60, if_pos (nI_lt (by omega) (by omega)), Option.map_some, zW_some, zI_inr, zleast_none hP, if_neg (by omega)]
        exact ⟨rfl, J0.trans (J4.mono (fun a j z => by omega)), hR1.2.keepM J4 (by omega) (fun j => by omega)⟩
  · refine ⟨-1, aR A, hA.2.2.2.2.1, ?_, fun g' hR => ?_⟩
    · unfold QC f_X11_stay f_X11_stay_22
      refine w_vs hC.1.1.s0 (w_eq (e_ip11 hC.1 hA) ?_)
      have fin : zW (some ((-1 : Int32), g)) (fun o => o.1 = -1 ∧ zJ (Scr x) g o.2 ∧ XR o.2 (x + 3) (x + 4) (aR A)) := zW_some.mpr ⟨rfl, zJ.rfl, hC.2⟩
      cases hv : rb v 0 (an A) with
      | false => rw [if_pos (bI_eq rfl)]; exact fin
      | true =>
        rw [if_neg (bI_ne rfl), e_ih11, Option.bind_some]
        cases hz : rb z 0 4 with
        | false => rw [if_pos (bI_eq rfl)]; exact fin
        | true => rw [if_neg (bI_ne rfl), e_iw11, Option.bind_some, if_pos (bI_eq (Bool.eq_false_iff.mpr (fun h => hvu ⟨hv, hz, h⟩)))]; exact fin
    · unfold QF f_X12_stay f_X12_stay_27
      refine r_start hR hA (fun g1 J0 hR1 _ => ?_)
      refine w_vs hR1.1.1.s0 (w_eq (e_ip hR1.1 hA) ?_)
      have fin : zW (some ((-1 : Int32), g1)) (fun o => o.1 = -1 ∧ zM m (ScM m) g' o.2 ∧ RW o.2 m (aR A)) := zW_some.mpr ⟨rfl, J0, hR1.2⟩
      cases hv : rb v 0 (an A) with
      | false => rw [if_pos (bI_eq rfl)]; exact fin
      | true =>
        rw [if_neg (bI_ne rfl), e_ih12, Option.bind_some]
        cases hz : rb z 0 4 with
        | false => rw [if_pos (bI_eq rfl)]; exact fin
        | true => rw [if_neg (bI_ne rfl), e_iw12, Option.bind_some, if_pos (bI_eq (Bool.eq_false_iff.mpr (fun h => hvu ⟨hv, hz, h⟩)))]; exact fin)
/-! where two rows of words differ -/
def atO (l : List Nat) (i : Nat) : Int32 := if i < l.length then nI (l.getD i 0) else -nI 1
def kr (l l' : List Nat) : Nat := zleast (fun i => decide (l.getD i 0 ≠ l'.getD i 0)) (min l.length l'.length) 0
def dfs (l l' : List Nat) : Nat := zleast (fun i => decide (atO l i ≠ atO l' i)) (max l.length l'.length) 0
theorem kr_spec (l l' : List Nat) : kr l l' ≤ min l.length l'.length ∧ (∀ j, j < kr l l' → l.getD j 0 = l'.getD j 0) ∧ (kr l l' < min l.length l'.length → l.getD (kr l l') 0 ≠ l'.getD (kr l l') 0) := by
  obtain ⟨a1, a2, a3, a4⟩ := zleast_spec (fun i => decide (l.getD i 0 ≠ l'.getD i 0)) (min l.length l'.length) 0
  refine ⟨by unfold kr; omega, fun j hj => ?_, fun h => of_decide_eq_true (a4 (by unfold kr at h; omega))⟩
  have := of_decide_eq_false (a3 j (by omega) hj)
  exact Decidable.not_not.mp this
theorem dfs_eq {l l' : List Nat} (h1 : ∀ j, j < l.length → l.getD j 0 < 8) (h2 : ∀ j, j < l'.length → l'.getD j 0 < 8) : (kr l l' = l.length ∧ kr l l' = l'.length → dfs l l' = max l.length l'.length) ∧ (¬ (kr l l' = l.length ∧ kr l l' = l'.length) → dfs l l' = kr l l' ∧ kr l l' < max l.length l'.length) := by
  obtain ⟨k1, k2, k3⟩ := kr_spec l l'
  have hlow : ∀ j, j < kr l l' → decide (atO l j ≠ atO l' j) = false := fun j hj => by
    refine decide_eq_false (fun h => h ?_)
    unfold atO
    rw [if_pos (by omega), if_pos (by omega), k2 j hj]
  constructor
  · rintro ⟨e1, e2⟩
    exact zleast_none (fun j hj => hlow j (by omega))
  · intro hne
    refine ⟨zleast_eq hlow (by omega) (decide_eq_true ?_), by omega⟩
    unfold atO
    by_cases c1 : kr l l' < l.length
    · have b1 := h1 _ c1
      by_cases c2 : kr l l' < l'.length
      · have b2 := h2 _ c2
        rw [if_pos c1, if_pos c2]
        intro h
        rw [nI_eq (by omega) (by omega)] at h
        exact k3 (by omega) h
      · rw [if_pos c1, if_neg c2]
        intro h
        rw [ng_eq (by omega) (by omega)] at h
        omega
    · by_cases c2 : kr l l' < l'.length
      · have b2 := h2 _ c2
        rw [if_neg c1, if_pos c2]
        intro h
        rw [ng_eq2 (by omega) (by omega)] at h
        omega
      · omega
theorem e_differs {g : ZS} {T T' : Nat} {l l' : List Nat} (hN : 10000 ≤ N) (hT : TL (zh g) T) (hT' : TL (zh g) T') (h : TS g T l) (h' : TS g T' l') : f_X10_differsAt N T T' g = some (if dfs l l' < max l.length l'.length then nI (dfs l l') else -nI 1) := by
  have t1 := hT.f.1
  have t1' := hT'.f.1
  have k1 := h.1
  have k1' := h'.1
  have k2 := h.2.1
  have k2' := h'.2.1
  unfold f_X10_differsAt
  rw [p_rdI t1, Option.bind_some, p_rdI t1', Option.bind_some, k1, k1', mx, Option.bind_some, c_0]
  have hm : (if nI l.length < nI l'.length then nI l'.length else nI l.length) = nI (max l.length l'.length) := by
    by_cases e : l.length < l'.length
    · rw [if_pos (nI_lt e (by omega)), Nat.max_eq_right (by omega)]
    · rw [if_neg (nI_nlt (by omega) (by omega)), Nat.max_eq_left (by omega)]
  rw [hm]
  refine loopL _ (fun i => nI i) (-nI 1) (max l.length l'.length) (fun i hi => ?_) ?_ (by omega)
  · show f_X10_differsAt_14 N T T' (nI (max l.length l'.length)) (nI i) g = _
    unfold f_X10_differsAt_14
    rw [if_neg (nI_ge hi (by omega)), p_vs t1, e_tat hT h (by omega), Option.bind_some, p_vs t1', e_tat hT' h' (by omega), Option.bind_some]
    by_cases e : atO l i = atO l' i
    · rw [decide_eq_false (fun x => x e)]
      unfold atO at e
      rw [if_pos e, c_1, nI_add]; rfl
    · rw [decide_eq_true e]
      unfold atO at e
      rw [if_neg e]; rfl
  · show f_X10_differsAt_14 N T T' (nI (max l.length l'.length)) (nI (max l.length l'.length)) g = _
    unfold f_X10_differsAt_14
    rw [if_pos (nI_le (Nat.le_refl _) (by omega))]; rfl
theorem k_alters (hN : 10000 ≤ N) (v : Int32) : Call (fun x g => f_X11_alters N x v g) (fun m g => f_X12_alters N m v g) := call_q (fun x m c g A hC hA hc => by
  have n6 := hA.1.1
  have hd := bnd hA hc
  cases hv : rb v 0 (an A) with
  | true =>
    obtain ⟨p, -, hp, rfl⟩ := rb_t hv (by omega)
    have me8 := (hA.1.2.1 p hp).2
    have hBI := fun k => goB_SI (H := aH A) (d := ad A) hA.1.2.2.1 k p hp
    have hl0 : (sayA A (aB A p) (ame A p)).length ≤ 8 := says_len
    have hlt0 := fun j hj => (sayA_lt (A := A) (b := aB A p) (me := ame A p) (j := j) hj).1
    obtain ⟨l, hl⟩ : ∃ l, l = (sayA A (aB A p) (ame A p)) := ⟨_, rfl⟩
    obtain ⟨L, hLd⟩ : ∃ L : Nat → List Nat, L = fun k => sayA A (goB (aH A) (k + 1) (aB A) (ad A) p) (ame A p) := ⟨_, rfl⟩
    have hL : ∀ k, sayA A (goB (aH A) (k + 1) (aB A) (ad A) p) (ame A p) = L k := fun k => by rw [hLd]
    have hLl : ∀ k, (L k).length ≤ 8 := fun k => by rw [← hL]; exact says_len
    have hLt : ∀ k j, j < (L k).length → (L k).getD j 0 < 8 := fun k j => by rw [← hL]; exact fun hj => (sayA_lt hj).1
    rw [← hl] at hl0 hlt0
    obtain ⟨P, hPd⟩ : ∃ P : Nat → Bool, P = fun k => decide (¬ (kr l (L k) = l.length ∧ kr l (L k) = (L k).length)) := ⟨_, rfl⟩
    have hPt : ∀ k, P k = true → ¬ (kr l (L k) = l.length ∧ kr l (L k) = (L k).length) := fun k h => by rw [hPd] at h; exact of_decide_eq_true h
    have hPf : ∀ k, P k = false → (kr l (L k) = l.length ∧ kr l (L k) = (L k).length) := fun k h => by rw [hPd] at h; exact Decidable.not_not.mp (of_decide_eq_false h)
    refine ⟨if zleast P 60 0 < 60 then nI (zleast P 60 0 + 1) else -nI 2, if zleast P 60 0 < 60 then [wL (kr l (L (zleast P 60 0))), (atO (L (zleast P 60 0)) (kr l (L (zleast P 60 0)))).toInt64] else aR A, by split; simp; exact hA.2.2.2.2.1, ?_, fun g' hR => ?_⟩
    · unfold QC f_X11_alters
      refine w_vs hC.1.1.s0 (w_eq (e_ip11 hC.1 hA) ?_)
      rw [if_neg (bI_ne hv)]
      refine c_say hN hC.1 hA hp (Or.inl ⟨rfl, rfl⟩) (fun g0 J0 T0 C0 => ?_)
      rw [← hl] at T0
      refine c_copy C0 hA hp (fun g1 J1 B1 M1 C1 => ?_)
      rw [c_1]
      refine zW_forI (fun i g2 => 1 ≤ i ∧ zJ (fun a j => (SFc x (x + 480) a j ∨ SFc x (x + 493) a j) ∨ x + 475 ≤ a ∧ a < x + 480) g g2 ∧ TS g2 (x + 480) l ∧ CB g2 (x + 475) (goB (aH A) (i - 1) (aB A) (ad A) p) ∧ zgi g2 (x + 475) 5 = nI (ame A p) ∧ CJ x g2 A ∧ ∀ k, k + 1 < i → P k = false) 61 (fun i g2 hi hI => ?_) (fun g2 hI => ?_) (by omega) (show 1 ≤ 61 by omega) ⟨by omega, (J0.mono (fun a j z => Or.inl (Or.inl z))).trans (J1.mono (fun a j z => Or.inr z)), T0.keep J1 (by omega) (fun j => by omega), B1, M1, C1, fun k hk => by omega⟩
      · obtain ⟨h1, J2, T2, B2, M2, C2, hP⟩ := hI
        obtain ⟨k, rfl⟩ : ∃ k, i = k + 1 := ⟨i - 1, by omega⟩
        rw [Nat.add_sub_cancel] at B2
        show zW (f_X11_alters_52 N x (nI (k + 1)) g2) _
        unfold f_X11_alters_52
        rw [c_60, if_neg (nI_nlt (by omega) (by omega))]
        refine w_rdR C2.1.s0 C2.1.r0_11 (w_rdR C2.1.s0 C2.1.r0_6 (w_rdI C2.1.SL23.f.1 C2.2.2.2.2.2.1.1.2.1 ?_))
        rw [nI_add, c_1, nI_sub (by omega), show ad A + (k + 1) - 1 = ad A + k by omega]
        refine c_listenS C2 hA B2 (hBI k) M2 (by omega) (fun g3 J3 B3 M3 C3 => ?_)
        refine c_sayS hN C3 hA (b := goB (aH A) (k + 1) (aB A) (ad A) p) B3 (hBI (k + 1)) M3 me8 (Or.inr ⟨rfl, rfl⟩) (fun g4 J4 T4 C4 => ?_)
        rw [hL] at T4
        have T40 : TS g4 (x + 480) l := (T2.keep J3 (by omega) (fun j => by omega)).keep J4 (by omega) (fun j => by omega)
        have hJ4 := (J2.trans (J3.mono (S' := fun a j => (SFc x (x + 480) a j ∨ SFc x (x + 493) a j) ∨ x + 475 ≤ a ∧ a < x + 480) (fun a j z => Or.inr z))).trans (J4.mono (fun a j z => Or.inl (Or.inr z)))
        have B4 := CB.keepJ B3 J4 (fun a j z y => by have := z.1; have := z.2.1; omega)
        have M4 : zgi g4 (x + 475) 5 = nI (ame A p) := by rw [J4.gi (by omega)]; exact M3
        refine w_rdR C4.1.s0 C4.1.r0_12 (w_rdR C4.1.s0 C4.1.r0_13 (w_vs C4.1.TL480.f.1 (w_eq (e_differs hN C4.1.TL480 C4.1.TL493 T40 T4) ?_)))
        have hdd := dfs_eq (l := l) (l' := L k) hlt0 (hLt k)
        have hLk := hLl k
        cases hf : P k with
        | true =>
          obtain ⟨d1, d2⟩ := hdd.2 (hPt k hf)
          rw [d1, if_pos d2, if_neg (show ¬ nI (kr l (L k)) = -nI 1 from fun h => by rw [ng_eq (by omega) (by omega)] at h; omega), zW_map]
          have hz := zleast_eq (n := 60) (fun j hj => hP j (by omega)) (by omega) hf
          rw [hz, if_pos (show k < 60 by omega), if_pos (show k < 60 by omega)]
          refine w_rdR C4.1.s0 C4.1.r0_1 (w_rdR C4.1.s0 C4.1.r0_13 (w_vs C4.1.TL493.f.1 (w_eq (e_tat C4.1.TL493 T4 (by omega)) (w_vs C4.1.s3 ?_))))
          refine (s_pair ⟨C4.1.s3, C4.1.s4, C4.1.r3_0⟩).bind (fun g5 h5 => ?_)
          rw [zW_some]
          exact ⟨rfl, (hJ4.mono (fun a j z => by omega)).trans (h5.1.mono (fun a j z => by omega)), h5.2⟩
        | false =>
          have d1 := hdd.1 (hPf k hf)
          rw [d1, if_neg (Nat.lt_irrefl _), if_pos rfl, zW_some, zI_inl, nI_add]
          refine ⟨rfl, by omega, hJ4, T40, B4, M4, C4, fun j hj => ?_⟩
          by_cases e : j = k
          · subst e; exact hf
          · exact hP j (by omega)
      · obtain ⟨h1, J2, T2, B2, M2, C2, hP⟩ := hI
        show zW (f_X11_alters_52 N x (nI 61) g2) _
        unfold f_X11_alters_52
        rw [c_60, if_pos (nI_lt (by omega) (by omega)), Option.map_some, zW_some, zI_inr, zleast_none (fun j hj => hP j (by omega)), if_neg (by omega), if_neg (by omega)]
        exact ⟨rfl, J2.mono (fun a j z => by omega), hC.2.stay J2 (fun a j z => by omega)⟩
    · unfold QF f_X12_alters
      refine r_start hR hA (fun g1 J0 hR1 _ => ?_)
      refine w_vs hR1.1.1.s0 (w_eq (e_ip hR1.1 hA) ?_)
      rw [if_neg (bI_ne hv)]
      refine r_then hN hR1.1 hA (fun g2 J2 T2 R2 => ?_)
      refine w_rdR R2.1.s0 R2.1.r0 (w_rdR R2.1.s0 R2.1.r23 ?_)
      refine r_say hN R2 hA (Or.inr rfl) hp (fun g3 J3 T3 R3 => ?_)
      rw [← hl] at T3 ⊢
      dsimp only
      rw [c_1]
      refine zW_forI (fun i g4 => 1 ≤ i ∧ zM m (fun a j => (SY m (m + 12) a j ∨ a = m + 13) ∨ a = m + 17) g1 g4 ∧ (∀ j, j < l.length → zgi g4 (m + 13) j = nI (l.getD j 0)) ∧ RN g4 (m + 17) (an A) (ad A + (i - 1)) (goB (aH A) (i - 1) (aB A) (ad A)) ∧ RJ m g4 A ∧ ∀ k, k + 1 < i → P k = false) 61 (fun i g4 hi hI => ?_) (fun g4 hI => ?_) (by omega) (show 1 ≤ 61 by omega) ⟨by omega, ((J2.toM (m := m)).mono (fun a j z => Or.inr z)).trans (J3.mono (fun a j z => by omega)), T3, T2.keepM n6 J3 (fun j _ => by omega), R3, fun k hk => by omega⟩
      · obtain ⟨h1, J4, T4, D4, R4, hP⟩ := hI
        obtain ⟨k, rfl⟩ : ∃ k, i = k + 1 := ⟨i - 1, by omega⟩
        rw [Nat.add_sub_cancel] at D4
        show zW (f_X12_alters_43 N m (nI p) (nI l.length) (nI (k + 1)) g4) _
        unfold f_X12_alters_43
        rw [c_60, if_neg (nI_nlt (by omega) (by omega))]
        refine w_rdR R4.1.s0 R4.1.r28 (w_vs R4.1.s0 ?_)
        rw [c_1]
        refine (s_goDays (k := 1) hN R4.1 R4.1.s17 R4.2.2.2.2.1 hA.2.1.2 R4.2.2.2.2.2.2.1.1 D4 (goB_SI hA.1.2.2.1 k) n6 (by omega) (by omega) (by omega)).bind (fun g5 h5 => ?_)
        obtain ⟨J5, D5⟩ := h5
        have R5 : RJ m g5 A := R4.keep hA J5.toM (fun a j z => by omega)
        refine w_rdR R5.1.s0 R5.1.r28 (w_rdR R5.1.s0 R5.1.r22 (w_vs R5.1.s0 ?_))
        have hbk : RB g5 (m + 17) (36 * p) (goB (aH A) (k + 1) (aB A) (ad A) p) := D5.2 p hp
        refine (r_says hN R5 hA (Or.inr rfl) (Or.inl rfl) hp hbk (hBI (k + 1))).bind (fun o ho => ?_)
        obtain ⟨y, g6⟩ := o
        obtain ⟨o1, J6, T6⟩ := ho
        dsimp only at o1 J6 T6 ⊢
        subst o1
        rw [hL] at T6 ⊢
        have R6 := R5.keep hA J6 (fun a j z => by omega)
        have hJ6 := (J4.trans ((J5.toM (m := m)).mono (S' := fun a j => (SY m (m + 12) a j ∨ a = m + 13) ∨ a = m + 17) (fun a j z => Or.inr z))).trans (J6.mono (fun a j z => Or.inl (Or.inl z)))
        have T46 : ∀ j, j < l.length → zgi g6 (m + 13) j = nI (l.getD j 0) := fun j hj => by rw [J6.gi (by omega), J5.gi (by omega)]; exact T4 j hj
        obtain ⟨q1, q2, q3⟩ := kr_spec l (L k)
        have hLk := hLl k
        -- the inner search
        have inner : ∀ (Z : (Int32 × ZS) ⊕ (Int32 × ZS) → Prop), zW (f_X12_alters_112 N m (nI p) (nI l.length) (nI (k + 1)) (nI (L k).length) (nI (kr l (L k))) g6) Z → zW (zloop (fun s => f_X12_alters_76 N m (nI p) (nI l.length) (nI (k + 1)) (nI (L k).length) s g6) N (nI 0)) Z := by
          intro Z hZ
          refine zW_for (fun i (s : Int32) => s = nI i) (kr l (L k)) (fun i s hi hs => ?_) (fun s hs => ?_) (by omega) (Nat.zero_le _) rfl
          · subst hs
            have e1 := T6 i (by omega)
            have e2 := T46 i (by omega)
            show zW (f_X12_alters_76 N m (nI p) (nI l.length) (nI (k + 1)) (nI (L k).length) (nI i) g6) _
            unfold f_X12_alters_76
            rw [if_neg (nI_ge (by omega) (by omega)), if_neg (nI_ge (by omega) (by omega))]
            refine w_rdR R6.1.s0 R6.1.r22 ?_
            rw [a20_8 R6.1.s12 (by omega), e1, Option.bind_some]
            refine w_rdR R6.1.s0 R6.1.r23 ?_
            rw [a20_8 R6.1.s13 (by omega), e2, Option.bind_some, q2 i hi, if_pos rfl, zW_some, zI_inl, c_1, nI_add]
          · subst hs
            show zW (f_X12_alters_76 N m (nI p) (nI l.length) (nI (k + 1)) (nI (L k).length) (nI (kr l (L k))) g6) _
            unfold f_X12_alters_76
            by_cases c1 : l.length ≤ kr l (L k)
            · rw [if_pos (nI_le c1 (by omega)), zW_map]; exact hZ
            · rw [if_neg (nI_ge (by omega) (by omega))]
              by_cases c2 : (L k).length ≤ kr l (L k)
              · rw [if_pos (nI_le c2 (by omega)), zW_map]; exact hZ
              · have e1 := T6 (kr l (L k)) (by omega)
                have e2 := T46 (kr l (L k)) (by omega)
                have b1 := hlt0 (kr l (L k)) (by omega)
                have b2 := hLt k (kr l (L k)) (by omega)
                rw [if_neg (nI_ge (by omega) (by omega))]
                refine w_rdR R6.1.s0 R6.1.r22 ?_
                rw [a20_8 R6.1.s12 (by omega), e1, Option.bind_some]
                refine w_rdR R6.1.s0 R6.1.r23 ?_
                rw [a20_8 R6.1.s13 (by omega), e2, Option.bind_some, if_neg (fun h => q3 (by omega) ((nI_eq (by omega) (by omega)).mp h).symm), zW_map]; exact hZ
        rw [c_0]
        refine inner _ ?_
        unfold f_X12_alters_112
        cases hf : P k with
        | true =>
          have hne := hPt k hf
          have hgo : zW ((f_X12_alters_128 N m (nI (k + 1)) (nI (L k).length) (nI (kr l (L k))) g6).map Sum.inr) (zI (fun (s : Int32 × ZS) => s.1 = nI (k + 1 + 1) ∧ 1 ≤ k + 1 + 1 ∧ zM m (fun a j => (SY m (m + 12) a j ∨ a = m + 13) ∨ a = m + 17) g1 s.2 ∧ (∀ j, j < l.length → zgi s.2 (m + 13) j = nI (l.getD j 0)) ∧ RN s.2 (m + 17) (an A) (ad A + (k + 1 + 1 - 1)) (goB (aH A) (k + 1 + 1 - 1) (aB A) (ad A)) ∧ RJ m s.2 A ∧ ∀ k_1, k_1 + 1 < k + 1 + 1 → P k_1 = false) (fun (o : Int32 × ZS) => o.1 = (if zleast P 60 0 < 60 then nI (zleast P 60 0 + 1) else -nI 2) ∧ zM m (ScM m) g' o.2 ∧ RW o.2 m (if zleast P 60 0 < 60 then [wL (kr l (L (zleast P 60 0))), (atO (L (zleast P 60 0)) (kr l (L (zleast P 60 0)))).toInt64] else aR A))) := by
            rw [zW_map]
            unfold f_X12_alters_128 f_X12_alters_162
            refine r_only R6 hA (fun g7 J7 W7 R7 => ?_)
            have hz := zleast_eq (n := 60) (fun j hj => hP j (by omega)) (by omega) hf
            have T7 : ∀ j, j < (L k).length → zgi g7 (m + 12) j = nI ((L k).getD j 0) := fun j hj => by rw [J7.gi (by omega)]; exact T6 j hj
            have last : ∀ y : Int64, y = (atO (L k) (kr l (L k))).toInt64 → zW (zvs g7 m 12 <| (f_X12_tell m y g7).bind fun g1 => some (nI (k + 1), g1)) (fun o => o.1 = (if zleast P 60 0 < 60 then nI (zleast P 60 0 + 1) else -nI 2) ∧ zM m (ScM m) g' o.2 ∧ RW o.2 m (if zleast P 60 0 < 60 then [wL (kr l (L (zleast P 60 0))), (atO (L (zleast P 60 0)) (kr l (L (zleast P 60 0)))).toInt64] else aR A)) := by
              intro y hy
              refine w_vs R7.1.s0 ((s_tell R7.1 W7 (by simp)).bind (fun g8 h8 => ?_))
              rw [zW_some, hz, if_pos (show k < 60 by omega), if_pos (show k < 60 by omega), ← hy]
              exact ⟨rfl, (J0.trans (hJ6.mono (fun a j z => by omega))).trans (((J7.trans h8.1).toM (m := m)).mono (fun a j z => by omega)), h8.2⟩
            by_cases c2 : (L k).length ≤ kr l (L k)
            · rw [if_pos (nI_le c2 (by omega))]
              refine last _ ?_
              unfold atO
              rw [if_neg (by omega)]; decide
            · rw [if_neg (nI_ge (by omega) (by omega))]
              refine w_rdR R7.1.s0 R7.1.r22 ?_
              rw [a20_8 R7.1.s12 (by omega), T7 _ (by omega), Option.bind_some]
              refine last _ ?_
              unfold atO
              rw [if_pos (by omega)]
          by_cases c1 : kr l (L k) = l.length
          · have c2 : kr l (L k) ≠ (L k).length := fun h => hne ⟨c1, h⟩
            rw [if_pos (by rw [c1]), if_neg (fun h => c2 ((nI_eq (by omega) (by omega)).mp h))]
            exact hgo
          · rw [if_neg (fun h => c1 ((nI_eq (by omega) (by omega)).mp h))]
            exact hgo
        | false =>
          obtain ⟨c1, c2⟩ := hPf k hf
          rw [if_pos (by rw [c1]), if_pos (by rw [← c2]), zW_some, zI_inl, c_1, nI_add]
          refine ⟨rfl, by omega, hJ6, T46, D5.keepM n6 J6 (fun j _ => by omega), R6, fun j hj => ?_⟩
          by_cases e : j = k
          · subst e; exact hf
          · exact hP j (by omega)
      · obtain ⟨h1, J4, T4, D4, R4, hP⟩ := hI
        show zW (f_X12_alters_43 N m (nI p) (nI l.length) (nI 61) g4) _
        unfold f_X12_alters_43
        rw [c_60, if_pos (nI_lt (by omega) (by omega)), Option.map_some, zW_some, zI_inr, zleast_none (fun j hj => hP j (by omega)), if_neg (by omega), if_neg (by omega)]
        exact ⟨rfl, J0.trans (J4.mono (fun a j z => by omega)), hR1.2.keepM J4 (by omega) (fun j => by omega)⟩
  | false =>
    refine ⟨-1, aR A, hA.2.2.2.2.1, ?_, fun g' hR => ?_⟩
    · unfold QC f_X11_alters
      refine w_vs hC.1.1.s0 (w_eq (e_ip11 hC.1 hA) ?_)
      rw [if_pos (bI_eq hv), zW_some]
      exact ⟨rfl, zJ.rfl, hC.2⟩
    · unfold QF f_X12_alters
      refine r_start hR hA (fun g1 J0 hR1 _ => ?_)
      refine w_vs hR1.1.1.s0 (w_eq (e_ip hR1.1 hA) ?_)
      rw [if_pos (bI_eq hv), zW_some]
      exact ⟨rfl, J0, hR1.2⟩)
end K7
