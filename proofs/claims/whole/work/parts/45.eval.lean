/-! ===== the class evaluates a code ===== -/
def CQ (g : ZS) (r : Nat) (code : List Nat) : Prop := zgi g r 4 = nI code.length ∧ ∀ j, j < code.length → zgi g (r + 1) j = nI (code.getD j 0)
theorem e_join {o : Nat} {a b : Int32} (h : 0 < rkO o) (h2 : o ≠ 256) : f_X5_join (nI o) a b = some (jn o a b) := by
  have ho : o = 42 ∨ o = 43 ∨ o = 45 ∨ o = 47 ∨ o = 60 ∨ o = 61 ∨ o = 62 := by
    unfold rkO at h
    repeat' split at h
    all_goals omega
  unfold f_X5_join f_X5_join_70 f_X5_join_81 f_X5_join_92 f_X5_join_116
  rcases ho with rfl | rfl | rfl | rfl | rfl | rfl | rfl
  · rfl
  · rfl
  · rfl
  · show (if b = 0 then some (0 : Int32) else if b = 0 then none else some (a / b)) = some (if b = 0 then nI 0 else a / b)
    by_cases e : b = 0
    · rw [if_pos e, if_pos e]; rfl
    · rw [if_neg e, if_neg e, if_neg e]
  · show (if b ≤ a then some (0 : Int32) else some 1) = some (if b ≤ a then nI 0 else nI 1)
    by_cases e : b ≤ a
    · rw [if_pos e, if_pos e]; rfl
    · rw [if_neg e, if_neg e]; rfl
  · show (if a = b then some (1 : Int32) else some 0) = some (if a = b then nI 1 else nI 0)
    by_cases e : a = b
    · rw [if_pos e, if_pos e]; rfl
    · rw [if_neg e, if_neg e]; rfl
  · show (if a ≤ b then some (0 : Int32) else some 1) = some (if a ≤ b then nI 0 else nI 1)
    by_cases e : a ≤ b
    · rw [if_pos e, if_pos e]; rfl
    · rw [if_neg e, if_neg e]; rfl
theorem e_value {g : ZS} {q w W i : Nat} {b : ZB} (hB : BL (zh g) q) (hb : CB g q b) (hw : w < 8) (hi : i < 7) : f_X5_valueOf (nI i) q (nI w) (nI W) g = some (akb b w W i) := by
  obtain ⟨h1, h2, h3, h4, h5, h6, h7, h8, h9⟩ := hB.f
  obtain ⟨c1, c2, c3, c4, c5⟩ := hb
  obtain ⟨d1, d2, d3, d4⟩ := c5 w hw
  unfold f_X5_valueOf
  rcases (show i = 0 ∨ i = 1 ∨ i = 2 ∨ i = 3 ∨ i = 4 ∨ i = 5 ∨ i = 6 by omega) with rfl | rfl | rfl | rfl | rfl | rfl | rfl
  · show ((zrdR g q 0 0).bind fun v1 => (zald 20 g v1 (nI w)).bind fun v2 => some v2) = _
    rw [p_rdR h1, h6, Option.bind_some, a20_8 h2 hw, d1]; rfl
  · show ((zrdR g q 0 1).bind fun v1 => (zald 20 g v1 (nI w)).bind fun v2 => some v2) = _
    rw [p_rdR h1, h7, Option.bind_some, a20_8 h3 hw, d2]; rfl
  · show ((zrdR g q 0 2).bind fun v1 => (zald 20 g v1 (nI w)).bind fun v2 => some v2) = _
    rw [p_rdR h1, h8, Option.bind_some, a20_8 h4 hw, d3]; rfl
  · show ((zrdR g q 0 3).bind fun v1 => (zald 20 g v1 (nI w)).bind fun v2 => some v2) = _
    rw [p_rdR h1, h9, Option.bind_some, a20_8 h5 hw, d4]; rfl
  · rfl
  · show ((zrdI g q 0 7).bind fun v1 => some v1) = _
    rw [p_rdI h1, c3]; rfl
  · rfl
/-- the stack at r + 2 -/
def SK (g : ZS) (r : Nat) (s : List Int32) : Prop := ∀ j, j < s.length → zgi g (r + 2) (s.length - 1 - j) = s.getD j 0
theorem SK.push {g : ZS} {r : Nat} {s : List Int32} {v : Int32} (h : SK g r s) : SK (zsetI g (r + 2) s.length v) r (v :: s) := by
  intro j hj
  rw [List.length_cons] at hj ⊢
  rw [gi_sI]
  cases j with
  | zero => rw [if_pos ⟨rfl, by omega⟩]; rfl
  | succ j => rw [if_neg (by omega), show s.length + 1 - 1 - (j + 1) = s.length - 1 - j by omega, h j (by omega)]; rfl
theorem SK.one {g : ZS} {r : Nat} {s : List Int32} {a v : Int32} (h : SK g r (a :: s)) : SK (zsetI g (r + 2) s.length v) r (v :: s) := by
  refine SK.push (fun j hj => ?_)
  have := h (j + 1) (by rw [List.length_cons]; omega)
  rw [List.length_cons, show s.length + 1 - 1 - (j + 1) = s.length - 1 - j by omega] at this
  exact this
theorem SK.tail {g : ZS} {r : Nat} {s : List Int32} {a : Int32} (h : SK g r (a :: s)) : SK g r s := fun j hj => by
  have := h (j + 1) (by rw [List.length_cons]; omega)
  rw [List.length_cons, show s.length + 1 - 1 - (j + 1) = s.length - 1 - j by omega] at this
  exact this
theorem SK.top {g : ZS} {r : Nat} {s : List Int32} {a : Int32} (h : SK g r (a :: s)) : zgi g (r + 2) s.length = a := h 0 (by simp)
theorem s_fond5 {N : Nat} (hN : 10000 ≤ N) {g : ZS} {r q w : Nat} {b : ZB} {W : Nat → Nat} {code : List Nat} (hr : QL (zh g) r) (hB : BL (zh g) q) (hb : CB g q b) (hw : w < 8) (hQ : CQ g r code) (hc40 : code.length ≤ 40) (hE : code = [] ∨ ∃ x, evIs (akb b w (W w)) code x) (d1 : r + 2 < q ∨ q + 5 ≤ r + 2) : zW (f_X5_fondness N r q (nI w) (nI (W w)) g) (fun o => o.1 = fdC code b W w ∧ zJ (fun a _ => a = r + 2) g o.2) := by
  obtain ⟨r1, r2, r3, r4, r5, r6, r7, r8, r9⟩ := hr.f
  obtain ⟨k1, k2⟩ := hQ
  unfold f_X5_fondness
  rcases hE with rfl | ⟨x, hE⟩
  · obtain ⟨h1, h2, h3, h4, h5, h6, h7, h8, h9⟩ := hB.f
    obtain ⟨e1, e2, e3, e4⟩ := hb.2.2.2.2 w hw
    have k1' : zgi g r 4 = nI 0 := k1
    rw [p_rdI r1, Option.bind_some, k1', if_pos (show nI 0 = 0 from rfl), p_rdR h1, h6, Option.bind_some, a20_8 h2 hw, Option.bind_some, p_rdR h1, h7, Option.bind_some, a20_8 h3 hw, Option.bind_some, p_rdR h1, h9, Option.bind_some, a20_8 h5 hw, Option.bind_some, e1, e2, e4, zW_some]
    exact ⟨rfl, zJ.rfl⟩
  · have hne : code ≠ [] := by
      intro e
      have := hE.1 []
      rw [e] at this; cases this
    have hl0 : 0 < code.length := List.length_pos_iff.mpr hne
    rw [p_rdI r1, Option.bind_some, k1, if_neg (nI_ne0 hl0 (by omega)), c_0]
    refine zW_forAI (fun i top g' => zJ (fun a _ => a = r + 2) g g' ∧ top = nI (ev (akb b w (W w)) (code.take i) []).length ∧ (ev (akb b w (W w)) (code.take i) []).length ≤ i ∧ SK g' r (ev (akb b w (W w)) (code.take i) [])) code.length (fun i top g' hi hI => ?_) (fun top g' hI => ?_) (by omega) ⟨zJ.rfl, rfl, Nat.le_refl _, fun j hj => absurd hj (by simp [ev])⟩
    · obtain ⟨hJ, rfl, e2, e3⟩ := hI
      have hS : ev (akb b w (W w)) (code.take (i + 1)) [] = evT (akb b w (W w)) (code.getD i 0) (ev (akb b w (W w)) (code.take i) []) := by
        rw [take_succ' hi, ev_app]; rfl
      have hok := hE.2 _ (getD_mem hi)
      have t1 : zgi g' (r + 1) i = nI (code.getD i 0) := by rw [hJ.gi (by omega)]; exact k2 i hi
      have u1 : zgi g' r 4 = nI code.length := by rw [hJ.gi (by omega)]; exact k1
      have hB' : BL (zh g') q := by rw [hJ.1]; exact hB
      have hb' : CB g' q b := hb.keepJ hJ (fun a j x y => by have := x.1; have := x.2.1; omega)
      have v1 : zsh g' r = some (5, 0) := by rw [hJ.sh]; exact r1
      have v2 : zsh g' (r + 1) = some (20, 40) := by rw [hJ.sh]; exact r2
      have v3 : zsh g' (r + 2) = some (20, 40) := by rw [hJ.sh]; exact r3
      have v6 : zgr g' r 0 = some (r + 1) := by rw [hJ.gr]; exact r6
      have v7 : zgr g' r 1 = some (r + 2) := by rw [hJ.gr]; exact r7
      rw [hS]
      generalize code.getD i 0 = t at hok t1
      generalize ev (akb b w (W w)) (code.take i) [] = s at e2 e3
      show zW (f_X5_fondness_38 N r q (nI w) (nI (W w)) (nI s.length) (nI i) g') _
      unfold f_X5_fondness_38
      rw [p_rdI v1, Option.bind_some, u1, if_neg (nI_ge hi (by omega)), p_rdR v1, v6, Option.bind_some, a20_40 v2 (by omega), Option.bind_some, t1]
      have push : ∀ v : Int32, zW (f_X5_fondness_95 N r q (nI w) (nI (W w)) (nI s.length) (nI i) (r + 2) (nI s.length) v g') (zI (fun z => z.2.1 = nI (i + 1) ∧ zJ (fun a _ => a = r + 2) g z.2.2 ∧ z.1 = nI (v :: s).length ∧ (v :: s).length ≤ i + 1 ∧ SK z.2.2 r (v :: s)) (fun o => o.1 = fdC code b W w ∧ zJ (fun a _ => a = r + 2) g o.2)) := by
        intro v
        unfold f_X5_fondness_95 f_X5_fondness_180
        rw [w20_40 v3 (by omega), Option.bind_some, zW_some, zI_inl, c_1, nI_add, nI_add]
        exact ⟨rfl, hJ.setI' rfl, by rw [List.length_cons], by rw [List.length_cons]; omega, e3.push⟩
      rcases hok with h1 | ⟨h1, h2⟩ | ⟨o, rfl, ho⟩
      · have hT : evT (akb b w (W w)) t s = nI t :: s := by unfold evT; rw [if_pos h1]
        rw [hT, c_2000, if_neg (nI_ge (by omega) (by omega)), p_rdR v1, v7, Option.bind_some, c_1000, if_neg (nI_ge h1 (by omega))]
        exact push _
      · have hT : evT (akb b w (W w)) t s = akb b w (W w) (t - 1000) :: s := by unfold evT; rw [if_neg (by omega), if_pos (by omega)]
        rw [hT, c_2000, if_neg (nI_ge (by omega) (by omega)), p_rdR v1, v7, Option.bind_some, c_1000, if_pos (nI_le h1 (by omega)), nI_sub h1, e_value hB' hb' hw (by omega), Option.bind_some]
        exact push _
      · have ho2 : o ≤ 256 := by
          unfold rkO at ho
          repeat' split at ho
          all_goals omega
        have stay : ∀ s' : List Int32, s'.length ≤ i → SK g' r s' → s'.length = s.length → zW (f_X5_fondness_180 N r q (nI w) (nI (W w)) (nI s.length) (nI i) g') (zI (fun z => z.2.1 = nI (i + 1) ∧ zJ (fun a _ => a = r + 2) g z.2.2 ∧ z.1 = nI s'.length ∧ s'.length ≤ i + 1 ∧ SK z.2.2 r s') (fun o => o.1 = fdC code b W w ∧ zJ (fun a _ => a = r + 2) g o.2)) := by
          intro s' h1 h2 h3
          unfold f_X5_fondness_180
          rw [zW_some, zI_inl, c_1, nI_add]
          exact ⟨rfl, hJ, by rw [h3], by omega, h2⟩
        rw [c_2000, if_pos (nI_le (by omega) (by omega)), show (2256 : Int32) = nI 2256 from rfl]
        by_cases h256 : o = 256
        · subst h256
          rw [if_pos rfl, c_0]
          cases s with
          | nil =>
            rw [List.length_nil, if_pos (nI_le (Nat.le_refl _) (by omega))]
            unfold f_X5_fondness_137
            rw [if_pos (show nI 0 ≤ 1 from nI_le (a := 0) (b := 1) (by omega) (by omega))]
            exact stay [] (by simp) (fun j hj => absurd hj (by simp)) rfl
          | cons a s =>
            have hT : evT (akb b w (W w)) (2000 + 256) (a :: s) = -a :: s := rfl
            rw [List.length_cons] at e2
            rw [hT, List.length_cons, if_neg (nI_ge (by omega) (by omega)), p_rdR v1, v7, Option.bind_some, Option.bind_some, c_1, nI_sub (by omega), Nat.add_sub_cancel, a20_40 v3 (by omega), Option.bind_some, w20_40 v3 (by omega), Option.bind_some, e3.top]
            unfold f_X5_fondness_180
            rw [zW_some, zI_inl, c_1, nI_add]
            exact ⟨rfl, hJ.setI' rfl, by rw [List.length_cons], by rw [List.length_cons]; omega, e3.one⟩
        · rw [if_neg (by rw [nI_eq (by omega) (by omega)]; omega)]
          unfold f_X5_fondness_137
          have hT : ∀ z, evT (akb b w (W w)) (2000 + o) z = (match z with
              | b :: a :: s' => jn o a b :: s'
              | z => z) := fun z => by
            unfold evT
            rw [if_neg (by omega), if_neg (by omega), if_neg (by omega), show 2000 + o - 2000 = o by omega]
            rcases z with _ | ⟨y, _ | ⟨z, s⟩⟩ <;> rfl
          rw [hT]
          cases s with
          | nil =>
            rw [List.length_nil, if_pos (show nI 0 ≤ 1 from nI_le (a := 0) (b := 1) (by omega) (by omega))]
            exact stay [] (by simp) (fun j hj => absurd hj (by simp)) rfl
          | cons y s =>
            cases s with
            | nil =>
              rw [List.length_singleton, if_pos (show nI 1 ≤ 1 from nI_le (a := 1) (b := 1) (by omega) (by omega))]
              exact stay [y] e2 e3 rfl
            | cons z s =>
              rw [List.length_cons, List.length_cons] at e2
              have z1 : zgi g' (r + 2) s.length = z := e3.tail.top
              have z2 : zgi g' (r + 2) (s.length + 1) = y := e3.top
              rw [List.length_cons, List.length_cons, c_1, if_neg (nI_ge (by omega) (by omega)), p_rdR v1, v7, Option.bind_some, Option.bind_some, ng_dec (by omega), nI_sub (by omega), show s.length + 1 + 1 - 1 - 1 = s.length by omega, show s.length + 1 + 1 - 1 = s.length + 1 by omega, a20_40 v3 (by omega), Option.bind_some, Option.bind_some, a20_40 v3 (by omega), Option.bind_some, z1, z2, c_2000, nI_sub (by omega), show 2000 + o - 2000 = o by omega, e_join ho h256, Option.bind_some, w20_40 v3 (by omega), Option.bind_some]
              unfold f_X5_fondness_180
              rw [zW_some, zI_inl, c_1, nI_add]
              exact ⟨rfl, hJ.setI' rfl, rfl, by simp only [List.length_cons]; omega, e3.tail.one⟩
    · obtain ⟨hJ, -, -, e3⟩ := hI
      rw [List.take_length, hE.1] at e3
      have v1 : zsh g' r = some (5, 0) := by rw [hJ.sh]; exact r1
      have v3 : zsh g' (r + 2) = some (20, 40) := by rw [hJ.sh]; exact r3
      have v7 : zgr g' r 1 = some (r + 2) := by rw [hJ.gr]; exact r7
      have u1 : zgi g' r 4 = nI code.length := by rw [hJ.gi (by omega)]; exact k1
      show zW (f_X5_fondness_38 N r q (nI w) (nI (W w)) top (nI code.length) g') _
      unfold f_X5_fondness_38
      rw [p_rdI v1, Option.bind_some, u1, if_pos (nI_le (Nat.le_refl _) (by omega)), p_rdR v1, v7, Option.bind_some, c_0, a20_40 v3 (by omega), Option.bind_some, Option.map_some, zW_some, zI_inr]
      exact ⟨(e3.top).trans (fdC_is hE).symm, hJ⟩
