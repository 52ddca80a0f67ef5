/-! ===== trial: the reference reads it ===== -/
section TR2
variable {N x m c : Nat} {g g' : ZS} {A : ZA} {l : List Nat} {β : Type} {Q : β → Prop}
theorem hrIn60 {p a b : Nat} (h60 : p < 60) : hrIn (l.take 60) p a b = decide (p < l.length ∧ a ≤ l.getD p 0 ∧ l.getD p 0 < b) := by
  have h0 : (l.take 60).length = min 60 l.length := List.length_take
  unfold hrIn
  by_cases e : p < l.length
  · rw [vis_get (by omega)]
    exact decide_eq_decide.mpr ⟨fun h => ⟨e, h.2⟩, fun h => ⟨by omega, h.2⟩⟩
  · rw [decide_eq_false (fun h => by omega), decide_eq_false (fun h => e h.1)]
theorem hr_td {p : Nat} : hrIn (l.take 60) p 48 (48 + 10) = td l p := by
  have h0 : (l.take 60).length = min 60 l.length := List.length_take
  by_cases h60 : p < 60
  · rw [hrIn60 h60]
    exact decide_eq_decide.mpr ⟨fun h => ⟨h60, h.1, h.2.1, by omega⟩, fun h => ⟨h.2.1, h.2.2.1, by omega⟩⟩
  · unfold hrIn td
    rw [decide_eq_false (fun h => by omega), decide_eq_false (fun h => h60 h.1)]
theorem hr_tw {p : Nat} : hrIn (l.take 60) p 97 (97 + 8) = tw l p := by
  have h0 : (l.take 60).length = min 60 l.length := List.length_take
  by_cases h60 : p < 60
  · rw [hrIn60 h60]
    exact decide_eq_decide.mpr ⟨fun h => ⟨h60, h.1, h.2.1, by omega⟩, fun h => ⟨h.2.1, h.2.2.1, by omega⟩⟩
  · unfold hrIn tw
    rw [decide_eq_false (fun h => by omega), decide_eq_false (fun h => h60 h.1)]
abbrev SAk (m k : Nat) : Nat → Nat → Prop := fun a j => a = m ∧ (j = 14 ∨ j = 15) ∨ a = m + 18 ∧ j = k
/-- a sign is read into a place of the acts -/
theorem r_slotY {a b k e : Nat} {K : ZS → Option β} (hR : LR m (zh g)) (hD : RD g m (m + 6) 80 l 60) (h14 : zgi g m 14 = nI e) (h15 : zgi g m 15 = -nI 1) (hk : k < 240) (hab : 1 ≤ b ∧ a + b ≤ 128) (ok : hrIn (l.take 60) e a (a + b) = true) (h : ∀ g', zJ (SAk m k) g g' → zgi g' m 14 = nI (e + 1) → zgi g' m 15 = -nI 1 → zgi g' (m + 18) k = nI (l.getD e 0 - a) → zW (K g') Q) : zW ((zrdR g m 12 29).bind fun v => zvs g m 12 <| (f_X12_oneOf m (nI a) (nI b) g).bind fun r => (zast 20 r.2 v (nI k) r.1).bind K) Q := by
  have a1 := of_decide_eq_true ok
  have k1 : (l.take 60).getD e 0 = l.getD e 0 := vis_get a1.1
  refine w_rdR hR.s0 hR.r29 (w_vs hR.s0 ?_)
  have he := e_oneY hR.s0 hD h14 h15 hab (by omega) ok
  rw [k1] at he
  refine w_eq he ?_
  dsimp only
  have J1 : zJ (fun a j => a = m ∧ j = 14) g (zsetI g m 14 (nI (e + 1))) := zJ.setI ⟨rfl, rfl⟩
  rw [w20_240 (by rw [J1.sh]; exact hR.s18) hk, Option.bind_some]
  have J2 : zJ (fun a j => a = m + 18 ∧ j = k) (zsetI g m 14 (nI (e + 1))) (zsetI (zsetI g m 14 (nI (e + 1))) (m + 18) k (nI (l.getD e 0 - a))) := zJ.setI ⟨rfl, rfl⟩
  exact h _ ((J1.mono (fun a j z => by omega)).trans (J2.mono (fun a j z => by omega))) (by rw [J2.gi (by omega), gi_sI, if_pos ⟨rfl, rfl⟩]) (by rw [J2.gi (by omega), J1.gi (by omega)]; exact h15) (by rw [gi_sI, if_pos ⟨rfl, rfl⟩])
theorem r_slotN {a b k e : Nat} {K : ZS → Option β} (hR : LR m (zh g)) (hD : RD g m (m + 6) 80 l 60) (h14 : zgi g m 14 = nI e) (h15 : zgi g m 15 = -nI 1) (he : e ≤ 80) (hk : k < 240) (hab : 1 ≤ b ∧ a + b ≤ 128) (ok : hrIn (l.take 60) e a (a + b) = false) (h : ∀ g', zJ (SAk m k) g g' → zgi g' m 15 = nI e → zW (K g') Q) : zW ((zrdR g m 12 29).bind fun v => zvs g m 12 <| (f_X12_oneOf m (nI a) (nI b) g).bind fun r => (zast 20 r.2 v (nI k) r.1).bind K) Q := by
  refine w_rdR hR.s0 hR.r29 (w_vs hR.s0 (w_eq (e_oneN hR.s0 hD h14 (by omega) h15 hab ok) ?_))
  dsimp only
  have J1 : zJ (fun a j => a = m ∧ j = 15) g (zsetI g m 15 (nI e)) := zJ.setI ⟨rfl, rfl⟩
  rw [w20_240 (by rw [J1.sh]; exact hR.s18) hk, Option.bind_some]
  have J2 : zJ (fun a j => a = m + 18 ∧ j = k) (zsetI g m 15 (nI e)) (zsetI (zsetI g m 15 (nI e)) (m + 18) k (nI 0)) := zJ.setI ⟨rfl, rfl⟩
  exact h _ ((J1.mono (fun a j z => by omega)).trans (J2.mono (fun a j z => by omega))) (by rw [J2.gi (by omega), gi_sI, if_pos ⟨rfl, rfl⟩])
theorem r_slot0 {k e : Nat} {a b : Int32} {K : ZS → Option β} (hR : LR m (zh g)) (h15 : zgi g m 15 = nI e) (he : e ≤ 80) (hk : k < 240) (h : ∀ g', zJ (SAk m k) g g' → zgi g' m 15 = nI e → zW (K g') Q) : zW ((zrdR g m 12 29).bind fun v => zvs g m 12 <| (f_X12_oneOf m a b g).bind fun r => (zast 20 r.2 v (nI k) r.1).bind K) Q := by
  refine w_rdR hR.s0 hR.r29 (w_vs hR.s0 (w_eq (e_one0 hR.s0 h15 (by omega)) ?_))
  dsimp only
  rw [w20_240 hR.s18 hk, Option.bind_some]
  have J2 : zJ (fun a j => a = m + 18 ∧ j = k) g (zsetI g (m + 18) k (nI 0)) := zJ.setI ⟨rfl, rfl⟩
  exact h _ (J2.mono (fun a j z => by omega)) (by rw [J2.gi (by omega)]; exact h15)
abbrev SA3 (m i : Nat) : Nat → Nat → Prop := fun a j => a = m ∧ (j = 14 ∨ j = 15) ∨ a = m + 18 ∧ 3 * i ≤ j ∧ j < 3 * i + 3
/-- the second number of an act -/
def aX (l : List Nat) (e : Nat) : Nat := if l.getD e 0 = 116 then l.getD (e + 2) 0 - 97 else l.getD (e + 2) 0 - 48
/-- the acts that were read stand in their places -/
def AtA (g : ZS) (m : Nat) (l : List Nat) (i : Nat) : Prop := zgi g (m + 18) (3 * i) = nI (l.getD (tP l i) 0) ∧ (2 ≤ ta (l.getD (tP l i) 0) → zgi g (m + 18) (3 * i + 1) = nI (l.getD (tP l i + 1) 0 - 48)) ∧ (ta (l.getD (tP l i) 0) = 3 → zgi g (m + 18) (3 * i + 2) = nI (aX l (tP l i)))
theorem r_head {i e : Nat} {Z : ZS → Prop} (hR : LR m (zh g)) (hD : RD g m (m + 6) 80 l 60) (h14 : zgi g m 14 = nI e) (h15 : zgi g m 15 = -nI 1) (he : e < 60) (hel : e < l.length) (hi : i < 80) (hA : isA (l.getD e 0) = true) (h : ∀ g', zJ (SAk m (3 * i)) g g' → zgi g' m 14 = nI (e + 1) → zgi g' m 15 = -nI 1 → zgi g' (m + 18) (3 * i) = nI (l.getD e 0) → zW (if nI (l.getD e 0) = (120 : Int32) then f_X12_readAct_89 m (nI (3 * i)) (nI (l.getD e 0)) g' else (zrdR g' m 12 29).bind fun v5 => zvs g' m 12 <| (f_X12_oneOf m (48 : Int32) (10 : Int32) g').bind fun r6 => (zast 20 r6.2 v5 (nI (3 * i) + (1 : Int32)) r6.1).bind fun g7 => f_X12_readAct_89 m (nI (3 * i)) (nI (l.getD e 0)) g7) Z) : zW (f_X12_readAct m (nI (3 * i)) g) Z := by
  have h0 : (l.take 60).length = min 60 l.length := List.length_take
  have hh := e_here hR.s0 hD h14 (by omega)
  rw [show hr (l.take 60) e = nI (l.getD e 0) by unfold hr; rw [if_pos (by omega), vis_get (by omega)]] at hh
  have main : zW (f_X12_readAct_50 m (nI (3 * i)) (nI (l.getD e 0)) g) Z := by
    unfold f_X12_readAct_50
    refine w_rdI hR.s0 h14 ?_
    rw [c_1, nI_add, p_wrI hR.s0, Option.bind_some]
    have J1 : zJ (fun a j => a = m ∧ j = 14) g (zsetI g m 14 (nI (e + 1))) := zJ.setI ⟨rfl, rfl⟩
    have R1 := hR.J J1
    refine w_rdR R1.s0 R1.r29 ?_
    rw [w20_240 R1.s18 (by omega), Option.bind_some]
    have J2 : zJ (fun a j => a = m + 18 ∧ j = 3 * i) (zsetI g m 14 (nI (e + 1))) (zsetI (zsetI g m 14 (nI (e + 1))) (m + 18) (3 * i) (nI (l.getD e 0))) := zJ.setI ⟨rfl, rfl⟩
    exact h _ ((J1.mono (fun a j z => by omega)).trans (J2.mono (fun a j z => by omega))) (by rw [J2.gi (by omega), gi_sI, if_pos ⟨rfl, rfl⟩]) (by rw [J2.gi (by omega), J1.gi (by omega)]; exact h15) (by rw [gi_sI, if_pos ⟨rfl, rfl⟩])
  unfold f_X12_readAct
  refine w_vs hR.s0 (w_eq hh ?_)
  generalize l.getD e 0 = cc at *
  rcases of_decide_eq_true hA with h | h | h | h | h | h <;> subst h
  · rw [if_pos (show nI 100 = 100 from rfl)]; exact main
  · rw [if_neg (show ¬ nI 107 = 100 by decide), if_neg (show ¬ nI 107 = 109 by decide), if_pos (show nI 107 = 107 from rfl)]; exact main
  · rw [if_neg (show ¬ nI 109 = 100 by decide), if_pos (show nI 109 = 109 from rfl)]; exact main
  · rw [if_neg (show ¬ nI 115 = 100 by decide), if_neg (show ¬ nI 115 = 109 by decide), if_neg (show ¬ nI 115 = 107 by decide), if_neg (show ¬ nI 115 = 116 by decide), if_pos (show nI 115 = 115 from rfl)]; exact main
  · rw [if_neg (show ¬ nI 116 = 100 by decide), if_neg (show ¬ nI 116 = 109 by decide), if_neg (show ¬ nI 116 = 107 by decide), if_pos (show nI 116 = 116 from rfl)]; exact main
  · rw [if_neg (show ¬ nI 120 = 100 by decide), if_neg (show ¬ nI 120 = 109 by decide), if_neg (show ¬ nI 120 = 107 by decide), if_neg (show ¬ nI 120 = 116 by decide), if_neg (show ¬ nI 120 = 115 by decide), if_pos (show nI 120 = 120 from rfl)]; exact main
theorem r_readActY {i : Nat} (hR : LR m (zh g)) (hD : RD g m (m + 6) 80 l 60) (h14 : zgi g m 14 = nI (tP l i)) (h15 : zgi g m 15 = -nI 1) (hi : i < 80) (hlt : tP l i < l.length) (hg : gA l (tP l i) = true) : zW (f_X12_readAct m (nI (3 * i)) g) (fun g' => zJ (SA3 m i) g g' ∧ zgi g' m 14 = nI (tP l (i + 1)) ∧ zgi g' m 15 = -nI 1 ∧ AtA g' m l i) := by
  have hnext : tP l (i + 1) = tP l i + ta (l.getD (tP l i) 0) := rfl
  rw [hnext]
  obtain ⟨g1, g2, g3, g4⟩ := of_decide_eq_true hg
  unfold AtA aX
  generalize tP l i = e at *
  refine r_head hR hD h14 h15 g1 hlt hi g2 (fun g3' J3 b1 b2 b3 => ?_)
  have R3 := hR.J J3
  have D3 : RD g3' m (m + 6) 80 l 60 := hD.J J3 (by omega) (by omega) (fun j => by omega)
  unfold f_X12_readAct_89 f_X12_readAct_111 f_X12_readAct_133
  rcases tr_acts g2 with ⟨h1, h2⟩ | ⟨h1, h2⟩ | ⟨h1, h2⟩ | ⟨h1, h2⟩
  · rw [h2]
    rw [h1] at b3 ⊢
    rw [if_pos (show nI 120 = 120 from rfl), if_neg (show ¬ nI 120 = 109 by decide), if_neg (show ¬ nI 120 = 116 by decide), zW_some]
    exact ⟨J3.mono (fun a j z => by omega), b1, b2, b3, fun h => by omega, fun h => by omega⟩
  · have h3 := g3 (by omega)
    rw [if_neg (show ¬ nI (l.getD e 0) = 120 by rcases h1 with h | h | h <;> rw [h] <;> decide), c_48, c_10, c_1, nI_add]
    refine r_slotY (a := 48) (b := 10) R3 D3 b1 b2 (by omega) (by omega) (by rw [hr_td]; exact h3) (fun g5 J5 d1 d2 d3 => ?_)
    rw [if_neg (show ¬ nI (l.getD e 0) = 109 by rcases h1 with h | h | h <;> rw [h] <;> decide), if_neg (show ¬ nI (l.getD e 0) = 116 by rcases h1 with h | h | h <;> rw [h] <;> decide), zW_some, h2]
    exact ⟨(J3.mono (fun a j z => by omega)).trans (J5.mono (fun a j z => by omega)), d1, d2, by rw [J5.gi (by omega)]; exact b3, fun _ => d3, fun h => by omega⟩
  · have h3 := g3 (by omega)
    have h4 := g4 h2
    unfold t2 at h4
    rw [if_neg (by omega)] at h4
    rw [if_neg (show ¬ l.getD e 0 = 116 by omega)]
    rw [if_neg (show ¬ nI (l.getD e 0) = 120 by rw [h1]; decide), c_48, c_10, c_1, c_2, nI_add, nI_add]
    refine r_slotY (a := 48) (b := 10) R3 D3 b1 b2 (by omega) (by omega) (by rw [hr_td]; exact h3) (fun g5 J5 d1 d2 d3 => ?_)
    have R5 := R3.J J5
    have D5 : RD g5 m (m + 6) 80 l 60 := D3.J J5 (by omega) (by omega) (fun j => by omega)
    rw [if_pos (show nI (l.getD e 0) = 109 by rw [h1]; rfl)]
    refine r_slotY (a := 48) (b := 10) R5 D5 d1 d2 (by omega) (by omega) (by rw [hr_td]; exact h4) (fun g7 J7 f1 f2 f3 => ?_)
    rw [if_neg (show ¬ nI (l.getD e 0) = 116 by rw [h1]; decide), zW_some, h2]
    exact ⟨((J3.mono (fun a j z => by omega)).trans (J5.mono (fun a j z => by omega))).trans (J7.mono (fun a j z => by omega)), f1, f2, by rw [J7.gi (by omega), J5.gi (by omega)]; exact b3, fun _ => by rw [J7.gi (by omega)]; exact d3, fun _ => f3⟩
  · have h3 := g3 (by omega)
    have h4 := g4 h2
    unfold t2 at h4
    rw [if_pos h1] at h4
    rw [if_pos h1]
    rw [if_neg (show ¬ nI (l.getD e 0) = 120 by rw [h1]; decide), c_48, c_10, c_1, c_2, nI_add, nI_add]
    refine r_slotY (a := 48) (b := 10) R3 D3 b1 b2 (by omega) (by omega) (by rw [hr_td]; exact h3) (fun g5 J5 d1 d2 d3 => ?_)
    have R5 := R3.J J5
    have D5 : RD g5 m (m + 6) 80 l 60 := D3.J J5 (by omega) (by omega) (fun j => by omega)
    rw [if_neg (show ¬ nI (l.getD e 0) = 109 by rw [h1]; decide), if_pos (show nI (l.getD e 0) = 116 by rw [h1]; rfl), c_97, c_8]
    refine r_slotY (a := 97) (b := 8) R5 D5 d1 d2 (by omega) (by omega) (by rw [hr_tw]; exact h4) (fun g7 J7 f1 f2 f3 => ?_)
    rw [zW_some, h2]
    exact ⟨((J3.mono (fun a j z => by omega)).trans (J5.mono (fun a j z => by omega))).trans (J7.mono (fun a j z => by omega)), f1, f2, by rw [J7.gi (by omega), J5.gi (by omega)]; exact b3, fun _ => by rw [J7.gi (by omega)]; exact d3, fun _ => f3⟩
theorem r_readActN {i e : Nat} (hR : LR m (zh g)) (hD : RD g m (m + 6) 80 l 60) (h14 : zgi g m 14 = nI e) (h15 : zgi g m 15 = -nI 1) (hi : i < 80) (he : e ≤ 60) (hlt : e < l.length) (hg : gA l e = false) : zW (f_X12_readAct m (nI (3 * i)) g) (fun g' => zJ (SA3 m i) g g' ∧ zgi g' m 15 = nI (fA l e)) := by
  have hb := of_decide_eq_false hg
  have h0 : (l.take 60).length = min 60 l.length := List.length_take
  have h256 : l.getD e 0 < 256 := (hD.2.2.2.2.2.2.2 e hlt).2
  unfold fA
  by_cases h1 : e < 60 ∧ isA (l.getD e 0) = true
  · rw [if_neg (fun h => h h1)]
    obtain ⟨g1, g2⟩ := h1
    refine r_head hR hD h14 h15 g1 hlt hi g2 (fun g3' J3 b1 b2 b3 => ?_)
    have R3 := hR.J J3
    have D3 : RD g3' m (m + 6) 80 l 60 := hD.J J3 (by omega) (by omega) (fun j => by omega)
    unfold f_X12_readAct_89 f_X12_readAct_111 f_X12_readAct_133
    have t2' : 2 ≤ ta (l.getD e 0) := Decidable.byContradiction (fun h => hb ⟨g1, g2, fun h' => absurd h' h, fun h' => by omega⟩)
    have n120 : ¬ nI (l.getD e 0) = (120 : Int32) := fun h => by
      have := (nI_eq (b := 120) (by omega) (by omega)).mp h
      rw [this] at t2'
      exact absurd t2' (by decide)
    rw [if_neg n120, c_48, c_10, c_1, c_2, nI_add, nI_add]
    cases h3 : td l (e + 1) with
    | false =>
      rw [if_pos rfl]
      refine r_slotN (a := 48) (b := 10) R3 D3 b1 b2 (by omega) (by omega) (by omega) (by rw [hr_td]; exact h3) (fun g5 J5 d1 => ?_)
      have R5 := R3.J J5
      have fin : zW (if nI (l.getD e 0) = (116 : Int32) then (zrdR g5 m 12 29).bind fun v1 => zvs g5 m 12 <| (f_X12_oneOf m (97 : Int32) (8 : Int32) g5).bind fun r2 => (zast 20 r2.2 v1 (nI (3 * i + 2)) r2.1).bind fun g3 => some g3 else some g5) (fun g' => zJ (SA3 m i) g g' ∧ zgi g' m 15 = nI (e + 1)) := by
        by_cases e6 : nI (l.getD e 0) = (116 : Int32)
        · rw [if_pos e6]
          refine r_slot0 R5 d1 (by omega) (by omega) (fun g7 J7 f1 => ?_)
          rw [zW_some]
          exact ⟨((J3.mono (fun a j z => by omega)).trans (J5.mono (fun a j z => by omega))).trans (J7.mono (fun a j z => by omega)), f1⟩
        · rw [if_neg e6, zW_some]
          exact ⟨(J3.mono (fun a j z => by omega)).trans (J5.mono (fun a j z => by omega)), d1⟩
      by_cases e9 : nI (l.getD e 0) = (109 : Int32)
      · rw [if_pos e9]
        refine r_slot0 R5 d1 (by omega) (by omega) (fun g7 J7 f1 => ?_)
        rw [if_neg (show ¬ nI (l.getD e 0) = 116 by rw [e9]; decide), zW_some]
        exact ⟨((J3.mono (fun a j z => by omega)).trans (J5.mono (fun a j z => by omega))).trans (J7.mono (fun a j z => by omega)), f1⟩
      · rw [if_neg e9]; exact fin
    | true =>
      rw [if_neg (by decide)]
      have hlen := td_n h3
      refine r_slotY (a := 48) (b := 10) R3 D3 b1 b2 (by omega) (by omega) (by rw [hr_td]; exact h3) (fun g5 J5 d1 d2 d3 => ?_)
      have R5 := R3.J J5
      have D5 : RD g5 m (m + 6) 80 l 60 := D3.J J5 (by omega) (by omega) (fun j => by omega)
      have h4 : ta (l.getD e 0) = 3 := Decidable.byContradiction (fun h => hb ⟨g1, g2, fun _ => h3, fun h' => absurd h' h⟩)
      have h5 : t2 l e = false := by
        cases h : t2 l e with
        | false => rfl
        | true => exact absurd ⟨g1, g2, fun _ => h3, fun _ => h⟩ hb
      unfold t2 at h5
      rcases tr_acts g2 with ⟨k1, k2⟩ | ⟨k1, k2⟩ | ⟨k1, k2⟩ | ⟨k1, k2⟩
      · omega
      · omega
      · rw [if_neg (by omega)] at h5
        rw [if_pos (show nI (l.getD e 0) = 109 by rw [k1]; rfl)]
        refine r_slotN (a := 48) (b := 10) R5 D5 d1 d2 (by omega) (by omega) (by omega) (by rw [hr_td]; exact h5) (fun g7 J7 f1 => ?_)
        rw [if_neg (show ¬ nI (l.getD e 0) = 116 by rw [k1]; decide), zW_some]
        exact ⟨((J3.mono (fun a j z => by omega)).trans (J5.mono (fun a j z => by omega))).trans (J7.mono (fun a j z => by omega)), f1⟩
      · rw [if_pos k1] at h5
        rw [if_neg (show ¬ nI (l.getD e 0) = 109 by rw [k1]; decide), if_pos (show nI (l.getD e 0) = 116 by rw [k1]; rfl), c_97, c_8]
        refine r_slotN (a := 97) (b := 8) R5 D5 d1 d2 (by omega) (by omega) (by omega) (by rw [hr_tw]; exact h5) (fun g7 J7 f1 => ?_)
        rw [zW_some]
        exact ⟨((J3.mono (fun a j z => by omega)).trans (J5.mono (fun a j z => by omega))).trans (J7.mono (fun a j z => by omega)), f1⟩
  · rw [if_pos h1]
    unfold f_X12_readAct
    have hh := e_here hR.s0 hD h14 (by omega)
    refine w_vs hR.s0 (w_eq hh ?_)
    have hne : ∀ k, k < 256 → isA k = true → ¬ hr (l.take 60) e = nI k := fun k hk hka h => by
      have := (hr_eq (v := l.take 60) (hD.vis e) hk).mp h
      have h2 : (l.take 60).getD e 0 = l.getD e 0 := vis_get this.1
      rw [h2] at this
      exact h1 ⟨by omega, by rw [this.2]; exact hka⟩
    rw [c_100, c_109, c_107, c_116, c_115, c_120, if_neg (hne 100 (by omega) rfl), if_neg (hne 109 (by omega) rfl), if_neg (hne 107 (by omega) rfl), if_neg (hne 116 (by omega) rfl), if_neg (hne 115 (by omega) rfl), if_neg (hne 120 (by omega) rfl)]
    refine w_rdI hR.s0 h14 (w_vs hR.s0 (w_eq (e_fault1 hR.s0 h15) ?_))
    rw [zW_some]
    exact ⟨zJ.setI (by omega), by rw [gi_sI, if_pos ⟨rfl, rfl⟩]⟩
/-- the acts are read; what comes then -/
theorem r_acts {Z : Int32 × ZS → Prop} (hN : 10000 ≤ N) (hR : LR m (zh g)) (hD : RD g m (m + 6) 80 l 60) (h80 : l.length ≤ 80) (h14 : zgi g m 14 = nI 0) (h15 : zgi g m 15 = -nI 1) (hY : tP l (tN l) = l.length → ∀ g', zJ (fun a j => a = m ∧ (j = 14 ∨ j = 15) ∨ a = m + 18) g g' → (∀ i, i < tN l → AtA g' m l i) → zW ((zrdR g' m 12 0).bind fun v2 => (zrdR g' m 12 27).bind fun v3 => (f_X12_lay N v2 v3 (0 : Int32) g').bind fun g4 => zloop (fun s => f_X12_trial_72 N m (nI (tN l)) s.1 s.2) N ((0 : Int32), g4)) Z) (hX : ¬ tP l (tN l) = l.length → ∀ g', zJ (fun a j => a = m ∧ (j = 14 ∨ j = 15) ∨ a = m + 18) g g' → Z ((-1 : Int32) - nI (fA l (tP l (tN l))), g')) : zW (zloop (fun s => f_X12_trial_13 N m s.1 s.2) N ((0 : Int32), g)) Z := by
  obtain ⟨n80, hg, hend, h60, hbad⟩ := tN_spec h80
  have hRD : ∀ g', zJ (fun a j => a = m ∧ (j = 14 ∨ j = 15) ∨ a = m + 18) g g' → RD g' m (m + 6) 80 l 60 := fun g' hJ => hD.J hJ (by omega) (by omega) (fun j => by omega)
  have hd12 := fun g' hJ => (hRD g' hJ).2.2.2.2.1
  by_cases hok : tP l (tN l) = l.length
  · refine zW_forI (fun i g' => zJ (fun a j => a = m ∧ (j = 14 ∨ j = 15) ∨ a = m + 18) g g' ∧ zgi g' m 14 = nI (tP l i) ∧ zgi g' m 15 = -nI 1 ∧ ∀ j, j < i → AtA g' m l j) (tN l) (fun i g2 hi hI => ?_) (fun g2 hI => ?_) (by omega) (Nat.zero_le _) ⟨zJ.rfl, h14, h15, fun j hj => absurd hj (Nat.not_lt_zero j)⟩
    · obtain ⟨J2, a1, a2, a3⟩ := hI
      obtain ⟨hlt, hga⟩ := hg i hi
      have R2 := hR.J J2
      show zW (f_X12_trial_13 N m (nI i) g2) _
      unfold f_X12_trial_13
      refine w_vs R2.s0 (w_eq (e_fine1 R2.s0 a2) ?_)
      rw [if_neg (show ¬ nI 1 = 0 by decide)]
      refine w_rdI R2.s0 a1 (w_rdI R2.s0 (hd12 g2 J2) ?_)
      rw [if_neg (nI_ge hlt (by omega)), c_3, nI_mul]
      refine w_vs R2.s0 ((r_readActY R2 (hRD g2 J2) a1 a2 (by omega) hlt hga).bind (fun g3 h3 => ?_))
      obtain ⟨J3, b1, b2, b3⟩ := h3
      rw [zW_some, zI_inl, c_1, nI_add]
      refine ⟨rfl, J2.trans (J3.mono (fun a j z => by omega)), b1, b2, fun j hj => ?_⟩
      by_cases e : j = i
      · subst e; exact b3
      · obtain ⟨c1, c2, c3⟩ := a3 j (by omega)
        exact ⟨by rw [J3.gi (by omega)]; exact c1, fun h => by rw [J3.gi (by omega)]; exact c2 h, fun h => by rw [J3.gi (by omega)]; exact c3 h⟩
    · obtain ⟨J2, a1, a2, a3⟩ := hI
      have R2 := hR.J J2
      show zW (f_X12_trial_13 N m (nI (tN l)) g2) _
      unfold f_X12_trial_13 f_X12_trial_44
      refine w_vs R2.s0 (w_eq (e_fine1 R2.s0 a2) ?_)
      rw [if_neg (show ¬ nI 1 = 0 by decide)]
      refine w_rdI R2.s0 a1 (w_rdI R2.s0 (hd12 g2 J2) ?_)
      rw [if_pos (nI_le (by omega) (by omega)), zW_map]
      refine w_vs R2.s0 (w_eq (e_right1 R2.s0 (hRD g2 J2) a1 (by omega) a2 (by omega)) ?_)
      dsimp only
      rw [if_neg (show ¬ nI 1 = 0 by decide)]
      exact hY hok g2 J2 a3
  · have hlt : tP l (tN l) < l.length := by omega
    refine zW_forI (fun i g' => zJ (fun a j => a = m ∧ (j = 14 ∨ j = 15) ∨ a = m + 18) g g' ∧ (i ≤ tN l → zgi g' m 14 = nI (tP l i) ∧ zgi g' m 15 = -nI 1) ∧ (tN l < i → zgi g' m 15 = nI (fA l (tP l (tN l))))) (tN l + 1) (fun i g2 hi hI => ?_) (fun g2 hI => ?_) (by omega) (Nat.zero_le _) ⟨zJ.rfl, fun _ => ⟨h14, h15⟩, fun h => absurd h (Nat.not_lt_zero _)⟩
    · obtain ⟨J2, a1, -⟩ := hI
      obtain ⟨a1, a2⟩ := a1 (by omega)
      have R2 := hR.J J2
      show zW (f_X12_trial_13 N m (nI i) g2) _
      unfold f_X12_trial_13
      have hlt' : tP l i < l.length := by
        by_cases e : i < tN l
        · exact (hg i e).1
        · rw [show i = tN l by omega]; exact hlt
      refine w_vs R2.s0 (w_eq (e_fine1 R2.s0 a2) ?_)
      rw [if_neg (show ¬ nI 1 = 0 by decide)]
      refine w_rdI R2.s0 a1 (w_rdI R2.s0 (hd12 g2 J2) ?_)
      rw [if_neg (nI_ge hlt' (by omega)), c_3, nI_mul]
      by_cases e : i < tN l
      · refine w_vs R2.s0 ((r_readActY R2 (hRD g2 J2) a1 a2 (by omega) hlt' (hg i e).2).bind (fun g3 h3 => ?_))
        obtain ⟨J3, b1, b2, b3⟩ := h3
        rw [zW_some, zI_inl, c_1, nI_add]
        exact ⟨rfl, J2.trans (J3.mono (fun a j z => by omega)), fun _ => ⟨b1, b2⟩, fun h => by omega⟩
      · have hiN : i = tN l := by omega
        have hi79 : i < 80 := by have := tP_ge (l := l) i; omega
        refine w_vs R2.s0 ((r_readActN R2 (hRD g2 J2) a1 a2 hi79 (by rw [hiN]; exact h60) hlt' (by rw [hiN]; exact hbad hlt)).bind (fun g3 h3 => ?_))
        obtain ⟨J3, b1⟩ := h3
        rw [zW_some, zI_inl, c_1, nI_add]
        exact ⟨rfl, J2.trans (J3.mono (fun a j z => by omega)), fun h => by omega, fun _ => by rw [← hiN]; exact b1⟩
    · obtain ⟨J2, -, a2⟩ := hI
      have a2 := a2 (by omega)
      have R2 := hR.J J2
      have hf : fA l (tP l (tN l)) ≤ 62 := by unfold fA; split; exact Nat.le_trans h60 (by omega); split <;> omega
      show zW (f_X12_trial_13 N m (nI (tN l + 1)) g2) _
      unfold f_X12_trial_13 f_X12_trial_44
      refine w_vs R2.s0 (w_eq (e_fine0 R2.s0 a2 (by omega)) ?_)
      rw [if_pos (show nI 0 = 0 from rfl), zW_map]
      refine w_vs R2.s0 (w_eq (e_right0 R2.s0 a2 (by omega)) ?_)
      dsimp only
      rw [if_pos (show nI 0 = 0 from rfl)]
      refine w_rdI R2.s0 a2 ?_
      rw [zW_some]
      exact hX hok g2 J2
end TR2
