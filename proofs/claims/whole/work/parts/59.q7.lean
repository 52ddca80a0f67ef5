/-! ===== fits ===== -/
def bcI (v : Int32) : Int32 := (f_J6_bitCount_0f7a4 v).getD 0
theorem e_bcI {v : Int32} : f_J6_bitCount_0f7a4 v = some (bcI v) := rfl
def suN (A : ZA) (p : Nat) (q : Nat × Nat) : Bool := match q.1 with
  | 0 => decide (ix (sayA A (aB A p) (ame A p)) q.2 < (sayA A (aB A p) (ame A p)).length)
  | 1 => !decide (ix (sayA A (aB A p) (ame A p)) q.2 < (sayA A (aB A p) (ame A p)).length)
  | 2 => decide (bh (aB A p) = q.2)
  | 3 => decide (q.2 ≤ ame A p)
  | _ => isF (sayA A (aB A p) (ame A p)) q.2
def suK (A : ZA) (p k : Nat) : Bool := zfold (fun i acc => acc && suN A p ((aN A).getD i e0)) k true
theorem suK_s {A : ZA} {p k : Nat} : suK A p (k + 1) = (suK A p k && suN A p ((aN A).getD k e0)) := rfl
theorem suK_t {A : ZA} {p : Nat} : ∀ k, suK A p k = true ↔ ∀ j, j < k → suN A p ((aN A).getD j e0) = true
  | 0 => ⟨fun _ j hj => by omega, fun _ => rfl⟩
  | k + 1 => by
    rw [suK_s, Bool.and_eq_true, suK_t k]
    constructor
    · rintro ⟨h1, h2⟩ j hj
      by_cases e : j = k
      · subst e; exact h2
      · exact h1 j (by omega)
    · intro h
      exact ⟨fun j hj => h j (by omega), h k (by omega)⟩
section K9
variable {N : Nat}
theorem e_suits {x c p k v : Nat} {g : ZS} {A : ZA} (hN : 10000 ≤ N) (hC : CJ x g A) (hA : AI A c) (hp : p < an A) (hk : k < 5) (hv : v ≤ 8) (hT : TS g (x + 480) (sayA A (aB A p) (ame A p))) : f_X3_suits N (nI k) (nI v) (x + 23 + 2 + 5 * p) (x + 480) g = some (bI (suN A p (k, v))) := by
  obtain ⟨b1, b2, b3, b4, b5, b6, b7⟩ := c_bird hC hA hp
  have hl8 : (sayA A (aB A p) (ame A p)).length ≤ 8 := says_len
  have hlt := fun j hj => (sayA_lt (A := A) (b := aB A p) (me := ame A p) (j := j) hj).1
  have hb4 := b4.1
  have hpl := e_placeOf (w := v) hN hC.1.TL480 hT (by omega)
  have hne : ∀ q, q < 10 → ¬ nI q = -1 := fun q hq h => by rw [show (-1 : Int32) = -nI 1 from rfl, ng_eq (by omega) (by omega)] at h; omega
  have hix : ix (sayA A (aB A p) (ame A p)) v ≤ (sayA A (aB A p) (ame A p)).length := ix_le
  rcases (show k = 0 ∨ k = 1 ∨ k = 2 ∨ k = 3 ∨ k = 4 by omega) with rfl | rfl | rfl | rfl | rfl
  · show (zvs g (x + 480) 10 <| (f_X10_placeOf N (x + 480) (nI v) g).bind fun v1 => if v1 = (-1 : Int32) then f_X3_suits_46 N (0 : Int32) g else f_X3_suits_46 N (1 : Int32) g) = some (bI (decide (ix (sayA A (aB A p) (ame A p)) v < (sayA A (aB A p) (ame A p)).length)))
    rw [p_vs hC.1.TL480.f.1, hpl, Option.bind_some]
    by_cases e : ix (sayA A (aB A p) (ame A p)) v < (sayA A (aB A p) (ame A p)).length
    · rw [if_pos e, if_neg (hne _ (by omega)), decide_eq_true e]; rfl
    · rw [if_neg e, if_pos (show -nI 1 = -1 from rfl), decide_eq_false e]; rfl
  · show (zvs g (x + 480) 10 <| (f_X10_placeOf N (x + 480) (nI v) g).bind fun v1 => if v1 = (-1 : Int32) then f_X3_suits_61 N (1 : Int32) g else f_X3_suits_61 N (0 : Int32) g) = some (bI (!decide (ix (sayA A (aB A p) (ame A p)) v < (sayA A (aB A p) (ame A p)).length)))
    rw [p_vs hC.1.TL480.f.1, hpl, Option.bind_some]
    by_cases e : ix (sayA A (aB A p) (ame A p)) v < (sayA A (aB A p) (ame A p)).length
    · rw [if_pos e, if_neg (hne _ (by omega)), decide_eq_true e]; rfl
    · rw [if_neg e, if_pos (show -nI 1 = -1 from rfl), decide_eq_false e]; rfl
  · show ((zrdI g (x + 23 + 2 + 5 * p) 0 4).bind fun v3 => if v3 = nI v then f_X3_suits_75 N (1 : Int32) g else f_X3_suits_75 N (0 : Int32) g) = some (bI (decide (bh (aB A p) = v)))
    rw [p_rdI b2.f.1, Option.bind_some, b3.1]
    by_cases e : bh (aB A p) = v
    · rw [if_pos (by rw [e]), decide_eq_true e]; rfl
    · rw [if_neg (fun h => e ((nI_eq (by omega) (by omega)).mp h)), decide_eq_false e]; rfl
  · show ((zrdI g (x + 23 + 2 + 5 * p) 0 5).bind fun v3 => if v3 < nI v then f_X3_suits_89 N (0 : Int32) g else f_X3_suits_89 N (1 : Int32) g) = some (bI (decide (v ≤ ame A p)))
    rw [p_rdI b2.f.1, Option.bind_some, b5]
    by_cases e : v ≤ ame A p
    · rw [if_neg (nI_nlt e (by omega)), decide_eq_true e]; rfl
    · rw [if_pos (nI_lt (by omega) (by omega)), decide_eq_false e]; rfl
  · show (zvs g (x + 480) 10 <| (f_X10_at (x + 480) (0 : Int32) g).bind fun v1 => if v1 = nI v then f_X3_suits_104 N (1 : Int32) g else f_X3_suits_104 N (0 : Int32) g) = some (bI (isF (sayA A (aB A p) (ame A p)) v))
    rw [p_vs hC.1.TL480.f.1, c_0, e_tat hC.1.TL480 hT (by omega), Option.bind_some]
    have hx := isF_at (w := v) hlt (by omega)
    cases hf : isF (sayA A (aB A p) (ame A p)) v with
    | true => rw [if_pos (hx.mpr hf)]; rfl
    | false => rw [if_neg (fun h => by rw [hx.mp h] at hf; cases hf)]; rfl
theorem e_suit {x c p : Nat} {g : ZS} {A : ZA} (hN : 10000 ≤ N) (hC : CJ x g A) (hA : AI A c) (hp : p < an A) (hT : TS g (x + 480) (sayA A (aB A p) (ame A p))) : f_X3_suit N (x + 512) (x + 23 + 2 + 5 * p) (x + 480) g = some (bI (suK A p (aN A).length)) := by
  have hL := hC.1
  have k1 := hC.2.2.2.2.2.2.2.2.2
  obtain ⟨n12, hn⟩ := hA.2.2.2.2.2.2.2.2.2
  unfold f_X3_suit
  rw [c_0]
  have hloop := loopL (body := fun s => f_X3_suit_2 N (x + 512) (x + 23 + 2 + 5 * p) (x + 480) s g) (fun i => !suN A p ((aN A).getD i e0)) (fun _ => nI 0) (nI 1) (aN A).length (fun i hi => ?_) ?_ (N := N) (by omega)
  · rw [hloop]
    obtain ⟨a1, a2, a3, a4⟩ := zleast_spec (fun i => !suN A p ((aN A).getD i e0)) (aN A).length 0
    by_cases e : zleast (fun i => !suN A p ((aN A).getD i e0)) (aN A).length 0 < (aN A).length
    · rw [if_pos e]
      have hf : suK A p (aN A).length = false := Bool.eq_false_iff.mpr (fun h => by
        have h1 := (suK_t _).mp h _ e
        have h2 := a4 (by omega)
        rw [h1] at h2; cases h2)
      rw [hf]; rfl
    · rw [if_neg e]
      have ht : suK A p (aN A).length = true := (suK_t _).mpr (fun j hj => by
        have := a3 j (by omega) (by omega)
        cases hh : suN A p ((aN A).getD j e0) with
        | true => rfl
        | false => rw [hh] at this; cases this)
      rw [ht]; rfl
  · obtain ⟨q1, q2⟩ := hn i hi
    obtain ⟨w1, w2⟩ := k1.2 i hi
    show f_X3_suit_2 N (x + 512) (x + 23 + 2 + 5 * p) (x + 480) (nI i) g = _
    unfold f_X3_suit_2
    rw [p_rdI hL.s512, Option.bind_some, k1.1, if_neg (nI_ge hi (by omega)), p_rdR hL.s512, hL.r512_0, Option.bind_some, a20_12 hL.s513 (by omega), Option.bind_some, w1, p_rdR hL.s512, hL.r512_1, Option.bind_some, a20_12 hL.s514 (by omega), Option.bind_some, w2, e_suits hN hC hA hp q1 q2 hT, Option.bind_some]
    show (if bI (suN A p ((aN A).getD i e0)) = 0 then _ else _) = _
    cases suN A p ((aN A).getD i e0) with
    | true => rw [if_neg (bI_ne rfl), c_1, nI_add]; rfl
    | false => rw [if_pos (bI_eq rfl)]; rfl
  · show f_X3_suit_2 N (x + 512) (x + 23 + 2 + 5 * p) (x + 480) (nI (aN A).length) g = _
    unfold f_X3_suit_2
    rw [p_rdI hL.s512, Option.bind_some, k1.1, if_pos (nI_le (Nat.le_refl _) (by omega))]; rfl
def ftA (A : ZA) (k : Nat) : Int32 := zfold (fun p acc => if suK A p (aN A).length = true then acc ||| bitW p else acc) k (nI 0)
theorem c_fitting {x c : Nat} {g : ZS} {A : ZA} (hN : 10000 ≤ N) (hC : CJ x g A) (hA : AI A c) : zW (f_X11_fittingParrots N x g) (fun o => o.1 = ftA A (an A) ∧ zJ (SFc x (x + 480)) g o.2 ∧ CJ x o.2 A) := by
  have n6 := hA.1.1
  unfold f_X11_fittingParrots
  refine zW_forAI (fun i a g' => a = ftA A i ∧ zJ (SFc x (x + 480)) g g' ∧ CJ x g' A) (an A) (fun i a g' hi hI => ?_) (fun a g' hI => ?_) (by omega) ⟨rfl, zJ.rfl, hC⟩
  · obtain ⟨rfl, J, C1⟩ := hI
    show zW (f_X11_fittingParrots_4 N x (ftA A i) (nI i) g') _
    unfold f_X11_fittingParrots_4 f_X11_fittingParrots_68
    refine c_size C1 ?_
    rw [if_neg (nI_ge hi (by omega))]
    refine c_say hN C1 hA hi (Or.inl ⟨rfl, rfl⟩) (fun g2 J2 T2 C2 => ?_)
    obtain ⟨b1, b2, -⟩ := c_bird C2 hA hi
    refine w_rdR C2.1.s0 C2.1.r0_15 (w_rdR C2.1.s0 C2.1.r0_6 (w_rdR C2.1.SL23.f.1 C2.1.SL23.f.2.2.1 ?_))
    rw [a25_6 C2.1.SL23.f.2.1 (by omega), b1, Option.bind_some]
    refine w_rdR C2.1.s0 C2.1.r0_12 (w_vs C2.1.s512 (w_eq (e_suit hN C2 hA hi T2) ?_))
    cases hs : suK A i (aN A).length with
    | true =>
      rw [if_neg (bI_ne rfl), zW_some, zI_inl, c_1, nI_add]
      exact ⟨rfl, by show _ = zfold _ (i + 1) _; unfold zfold; rw [if_pos hs]; rfl, J.trans J2, C2⟩
    | false =>
      rw [if_pos (bI_eq rfl), zW_some, zI_inl, c_1, nI_add]
      exact ⟨rfl, by show _ = zfold _ (i + 1) _; unfold zfold; rw [if_neg (by rw [hs]; decide)]; rfl, J.trans J2, C2⟩
  · obtain ⟨rfl, J, C1⟩ := hI
    show zW (f_X11_fittingParrots_4 N x (ftA A (an A)) (nI (an A)) g') _
    unfold f_X11_fittingParrots_4
    refine c_size C1 ?_
    rw [if_pos (nI_le (Nat.le_refl _) (by omega)), Option.map_some, zW_some, zI_inr]
    exact ⟨rfl, J, C1⟩
theorem r_fits {m c p k v : Nat} {g : ZS} {A : ZA} (hN : 10000 ≤ N) (hR : RJ m g A) (hA : AI A c) (hp : p < an A) (hk : k < 5) (hv : v ≤ 8) : zW (f_X12_fits N m (nI p) (nI k) (nI v) g) (fun o => o.1 = bI (suN A p (k, v)) ∧ zM m (SY m (m + 12)) g o.2 ∧ RJ m o.2 A) := by
  have n6 := hA.1.1
  have hL := hR.1
  have hb := hR.2.2.2.2.2.2.1.2.2.2 p hp
  have hBI := hA.1.2.2.1 p hp
  have hme := (hA.1.2.1 p hp).2
  have hm := hR.2.2.2.2.2.2.1.2.1 p hp
  have hl8 : (sayA A (aB A p) (ame A p)).length ≤ 8 := says_len
  have hix : ix (sayA A (aB A p) (ame A p)) v ≤ (sayA A (aB A p) (ame A p)).length := ix_le
  have hh4 := hBI.1
  rcases (show k = 0 ∨ k = 1 ∨ k = 2 ∨ k = 3 ∨ k = 4 by omega) with rfl | rfl | rfl | rfl | rfl
  · show zW ((zrdR g m 12 0).bind fun v1 => zvs g m 12 <| (f_X12_placeOf N m v1 (nI p) (nI v) g).bind fun r2 => if r2.1 < 0 then f_X12_fits_50 N (0 : Int32) r2.2 else f_X12_fits_50 N (1 : Int32) r2.2) _
    refine w_rdR hL.s0 hL.r0 (w_vs hL.s0 ((r_placeOf hN hR hA (Or.inl rfl) hp hb hBI (by omega)).bind (fun o ho => ?_)))
    obtain ⟨o1, o2⟩ := ho
    have R2 := hR.keep hA o2 (fun a j z => by omega)
    rw [o1]
    show zW _ (fun (o : Int32 × ZS) => o.1 = bI (decide (ix (sayA A (aB A p) (ame A p)) v < (sayA A (aB A p) (ame A p)).length)) ∧ zM m (SY m (m + 12)) g o.2 ∧ RJ m o.2 A)
    by_cases e : ix (sayA A (aB A p) (ame A p)) v < (sayA A (aB A p) (ame A p)).length
    · rw [if_pos e, if_neg (nI_pos (by omega)), decide_eq_true e]
      exact zW_some.mpr ⟨rfl, o2, R2⟩
    · rw [if_neg e, if_pos (show -nI 2 < 0 by decide), decide_eq_false e]
      exact zW_some.mpr ⟨rfl, o2, R2⟩
  · show zW ((zrdR g m 12 0).bind fun v1 => zvs g m 12 <| (f_X12_placeOf N m v1 (nI p) (nI v) g).bind fun r2 => if 0 ≤ r2.1 then f_X12_fits_69 N (0 : Int32) r2.2 else f_X12_fits_69 N (1 : Int32) r2.2) _
    refine w_rdR hL.s0 hL.r0 (w_vs hL.s0 ((r_placeOf hN hR hA (Or.inl rfl) hp hb hBI (by omega)).bind (fun o ho => ?_)))
    obtain ⟨o1, o2⟩ := ho
    have R2 := hR.keep hA o2 (fun a j z => by omega)
    rw [o1]
    show zW _ (fun (o : Int32 × ZS) => o.1 = bI (!decide (ix (sayA A (aB A p) (ame A p)) v < (sayA A (aB A p) (ame A p)).length)) ∧ zM m (SY m (m + 12)) g o.2 ∧ RJ m o.2 A)
    by_cases e : ix (sayA A (aB A p) (ame A p)) v < (sayA A (aB A p) (ame A p)).length
    · rw [if_pos e, if_pos (nI_pos' (by omega)), decide_eq_true e]
      exact zW_some.mpr ⟨rfl, o2, R2⟩
    · rw [if_neg e, if_neg (show ¬ (0 : Int32) ≤ -nI 2 by decide), decide_eq_false e]
      exact zW_some.mpr ⟨rfl, o2, R2⟩
  · show zW ((zrdR g m 12 0).bind fun v5 => (f_X12_of (nI p) (0 : Int32)).bind fun v6 => (zald 20 g v5 v6).bind fun v7 => if v7 = nI v then f_X12_fits_89 N (1 : Int32) g else f_X12_fits_89 N (0 : Int32) g) (fun o => o.1 = bI (decide (bh (aB A p) = v)) ∧ zM m (SY m (m + 12)) g o.2 ∧ RJ m o.2 A)
    unfold f_X12_of
    refine w_rdR hL.s0 hL.r0 (w_eq rfl ?_)
    rw [c_36, c_0, nI_mul, nI_add, a20_217 hL.s1 (by omega), Option.bind_some, show zgi g (m + 1) (36 * p + 0) = nI (bh (aB A p)) from hb.1]
    by_cases e : bh (aB A p) = v
    · rw [if_pos (by rw [e]), decide_eq_true e]
      exact zW_some.mpr ⟨rfl, zM.rfl, hR⟩
    · rw [if_neg (fun h => e ((nI_eq (by omega) (by omega)).mp h)), decide_eq_false e]
      exact zW_some.mpr ⟨rfl, zM.rfl, hR⟩
  · show zW ((zrdR g m 12 2).bind fun v8 => (zald 20 g v8 (nI p)).bind fun v9 => if v9 < nI v then f_X12_fits_105 N (0 : Int32) g else f_X12_fits_105 N (1 : Int32) g) (fun o => o.1 = bI (decide (v ≤ ame A p)) ∧ zM m (SY m (m + 12)) g o.2 ∧ RJ m o.2 A)
    refine w_rdR hL.s0 hL.r2 ?_
    rw [a20_6 hL.s2 (by omega), Option.bind_some, hm]
    by_cases e : v ≤ ame A p
    · rw [if_neg (nI_nlt e (by omega)), decide_eq_true e]
      exact zW_some.mpr ⟨rfl, zM.rfl, hR⟩
    · rw [if_pos (nI_lt (by omega) (by omega)), decide_eq_false e]
      exact zW_some.mpr ⟨rfl, zM.rfl, hR⟩
  · show zW ((zrdR g m 12 0).bind fun v10 => zvs g m 12 <| (f_X12_isFirst N m v10 (nI p) (nI v) g).bind fun r11 => if vp_nar .boolean r11.1 = r11.1 then some (r11.1, r11.2) else none) (fun o => o.1 = bI (isF (sayA A (aB A p) (ame A p)) v) ∧ zM m (SY m (m + 12)) g o.2 ∧ RJ m o.2 A)
    refine w_rdR hL.s0 hL.r0 (w_vs hL.s0 ((r_isFirst hN hR hA (Or.inl rfl) hp hb hBI (by omega)).bind (fun o ho => ?_)))
    obtain ⟨o1, o2, o3⟩ := ho
    rw [if_pos (by rw [o1]; exact bI_nar), zW_some]
    exact ⟨o1, o2, o3⟩
theorem r_fitting {m c : Nat} {g : ZS} {A : ZA} (hN : 10000 ≤ N) (hR : RJ m g A) (hA : AI A c) : zW (f_X12_fitting N m g) (fun o => o.1 = ftA A (an A) ∧ zM m (SY m (m + 12)) g o.2 ∧ RJ m o.2 A) := by
  have n6 := hA.1.1
  obtain ⟨n12, hn⟩ := hA.2.2.2.2.2.2.2.2.2
  unfold f_X12_fitting
  refine zW_forAI (fun i a g' => a = ftA A i ∧ zM m (SY m (m + 12)) g g' ∧ RJ m g' A) (an A) (fun i a g' hi hI => ?_) (fun a g' hI => ?_) (by omega) ⟨rfl, zM.rfl, hR⟩
  · obtain ⟨rfl, J, R1⟩ := hI
    show zW (f_X12_fitting_4 N m (ftA A i) (nI i) g') _
    unfold f_X12_fitting_4
    refine w_rdI R1.1.s0 R1.2.2.2.2.2.2.1.1 ?_
    rw [if_neg (nI_ge hi (by omega))]
    refine zW_forAI (fun k b g2 => b = bI (suK A i k) ∧ zM m (SY m (m + 12)) g g2 ∧ RJ m g2 A) (aN A).length (fun k b g2 hk hI2 => ?_) (fun b g2 hI2 => ?_) (by omega) ⟨rfl, J, R1⟩
    · obtain ⟨rfl, J2, R2⟩ := hI2
      obtain ⟨q1, q2⟩ := hn k hk
      have k1 := R2.2.2.2.2.2.2.2.2.2.2
      obtain ⟨w1, w2⟩ := k1.2 k hk
      show zW (f_X12_fitting_17 N m (ftA A i) (nI i) (bI (suK A i k)) (nI k) g2) _
      unfold f_X12_fitting_17 f_X12_fitting_56 f_X12_fitting_57
      refine w_rdI R2.1.s0 k1.1 ?_
      rw [if_neg (nI_ge hk (by omega))]
      cases hs : suK A i k with
      | false =>
        rw [if_pos (bI_eq rfl), zW_some, zI_inl, c_1, nI_add]
        exact ⟨rfl, by rw [suK_s, hs]; rfl, J2, R2⟩
      | true =>
        rw [if_neg (bI_ne rfl)]
        refine w_rdR R2.1.s0 R2.1.r39 ?_
        rw [a20_12 R2.1.s27 (by omega), w1, Option.bind_some]
        refine w_rdR R2.1.s0 R2.1.r40 ?_
        rw [a20_12 R2.1.s28 (by omega), w2, Option.bind_some]
        refine w_vs R2.1.s0 ((r_fits hN R2 hA hi q1 q2).bind (fun o ho => ?_))
        obtain ⟨o1, J3, R3⟩ := ho
        rw [o1]
        have hq : suK A i (k + 1) = suN A i ((aN A).getD k e0) := by rw [suK_s, hs, Bool.true_and]
        show zW (if bI (suN A i ((aN A).getD k e0)) = 0 then _ else _) _
        cases hz : suN A i ((aN A).getD k e0) with
        | true =>
          rw [if_neg (bI_ne rfl), zW_some, zI_inl, c_1, nI_add]
          exact ⟨rfl, by rw [hq, hz]; rfl, J2.trans J3, R3⟩
        | false =>
          rw [if_pos (bI_eq rfl), zW_some, zI_inl, c_1, nI_add]
          exact ⟨rfl, by rw [hq, hz]; rfl, J2.trans J3, R3⟩
    · obtain ⟨rfl, J2, R2⟩ := hI2
      have k1 := R2.2.2.2.2.2.2.2.2.2.2
      show zW (f_X12_fitting_17 N m (ftA A i) (nI i) (bI (suK A i (aN A).length)) (nI (aN A).length) g2) _
      unfold f_X12_fitting_17 f_X12_fitting_76
      refine w_rdI R2.1.s0 k1.1 ?_
      rw [if_pos (nI_le (Nat.le_refl _) (by omega)), zW_map]
      cases hs : suK A i (aN A).length with
      | true =>
        rw [if_neg (bI_ne rfl), zW_some, zI_inr, zI_inl, c_1, nI_add]
        exact ⟨rfl, by show _ = zfold _ (i + 1) _; unfold zfold; rw [if_pos hs]; rfl, J2, R2⟩
      | false =>
        rw [if_pos (bI_eq rfl), zW_some, zI_inr, zI_inl, c_1, nI_add]
        exact ⟨rfl, by show _ = zfold _ (i + 1) _; unfold zfold; rw [if_neg (by rw [hs]; decide)]; exact or_z, J2, R2⟩
  · obtain ⟨rfl, J, R1⟩ := hI
    show zW (f_X12_fitting_4 N m (ftA A (an A)) (nI (an A)) g') _
    unfold f_X12_fitting_4
    refine w_rdI R1.1.s0 R1.2.2.2.2.2.2.1.1 ?_
    rw [if_pos (nI_le (Nat.le_refl _) (by omega)), Option.map_some, zW_some, zI_inr]
    exact ⟨rfl, J, R1⟩
theorem k_fits (hN : 10000 ≤ N) : Call (fun x g => f_X11_fits N x g) (fun m g => f_X12_fits_ N m g) := call_q (fun x m c g A hC hA hc => by
  refine ⟨ftA A (an A), [(bcI (ftA A (an A))).toInt64], by simp, ?_, fun g' hR => ?_⟩
  · unfold QC f_X11_fits
    refine w_vs hC.1.1.s0 ((c_fitting hN hC.1 hA).bind (fun o ho => ?_))
    obtain ⟨y, g2⟩ := o
    obtain ⟨o1, J1, C1⟩ := ho
    dsimp only at o1 J1 C1 ⊢
    subst o1
    refine w_rdR C1.1.s0 C1.1.r0_1 (w_eq e_bcI (w_vs C1.1.s3 ?_))
    refine (s_only ⟨C1.1.s3, C1.1.s4, C1.1.r3_0⟩).bind (fun g3 h3 => ?_)
    rw [zW_some]
    exact ⟨rfl, (J1.mono (fun a j z => by omega)).trans (h3.1.mono (fun a j z => by omega)), h3.2⟩
  · unfold QF f_X12_fits_
    refine r_start hR hA (fun g1 J0 hR1 _ => ?_)
    have J9 : zJ (SW m) g1 (zsetI g1 m 9 0) := zJ.setI (Or.inl ⟨rfl, rfl⟩)
    rw [p_wrI hR1.1.1.s0, Option.bind_some]
    have R9 : RJ m (zsetI g1 m 9 0) A := hR1.1.keep hA J9.toM (fun a j z => by omega)
    have W9 : RW (zsetI g1 m 9 0) m [] := RW.zero
    refine w_vs R9.1.s0 ((r_fitting hN R9 hA).bind (fun o ho => ?_))
    obtain ⟨y, g2⟩ := o
    obtain ⟨o1, J2, R2⟩ := ho
    dsimp only at o1 J2 R2 ⊢
    subst o1
    refine w_eq e_bcI (w_vs R2.1.s0 ((s_tell R2.1 (W9.keepM J2 (by omega) (fun j => by omega)) (by simp)).bind (fun g3 h3 => ?_)))
    obtain ⟨J3, W3⟩ := h3
    have R3 : RJ m g3 A := R2.keep hA J3.toM (fun a j z => by omega)
    refine w_vs R3.1.s0 ((r_fitting hN R3 hA).bind (fun o ho => ?_))
    obtain ⟨o1, J4, R4⟩ := ho
    rw [zW_some]
    exact ⟨o1, (((J0.trans ((J9.toM (m := m)).mono (fun a j z => by omega))).trans (J2.mono (fun a j z => by omega))).trans ((J3.toM (m := m)).mono (fun a j z => by omega))).trans (J4.mono (fun a j z => by omega)), W3.keepM J4 (by omega) (fun j => by omega)⟩)
end K9
