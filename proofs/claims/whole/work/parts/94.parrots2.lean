/-! ===== parrots: the reference ===== -/
section PR
variable {N x m c : Nat} {g g' : ZS} {A : ZA} {l : List Nat} {β : Type} {Q : β → Prop}
theorem hrIn17 {p a b : Nat} (h17 : p < 17) : hrIn (l.take 17) p a b = decide (p < l.length ∧ a ≤ l.getD p 0 ∧ l.getD p 0 < b) := by
  have h0 : (l.take 17).length = min 17 l.length := List.length_take
  unfold hrIn
  by_cases e : p < l.length
  · rw [vis_get (by omega)]
    exact decide_eq_decide.mpr ⟨fun h => ⟨e, h.2⟩, fun h => ⟨by omega, h.2⟩⟩
  · rw [decide_eq_false (fun h => by omega), decide_eq_false (fun h => e h.1)]
/-- both digits of a line are read -/
theorem r_two {i : Nat} {k : ZS → Option β} (hR : LR m (zh g)) (hD : RD g m (m + 6) 80 l 17) (h14 : zgi g m 14 = nI (3 * i)) (h15 : zgi g m 15 = -nI 1) (hi : i < 6) (o1 : hrIn (l.take 17) (3 * i) 48 (48 + 4) = true) (o2 : hrIn (l.take 17) (3 * i + 1) 49 (49 + 8) = true) (hk : ∀ g8, zJ (S8 m) g g8 → zgi g8 m 14 = nI (3 * i + 2) → zgi g8 m 15 = -nI 1 → zgi g8 (m + 8) (2 * i) = nI (l.getD (3 * i) 0 - 48) → zgi g8 (m + 8) (2 * i + 1) = nI (l.getD (3 * i + 1) 0 - 48) → (∀ j, j < 2 * i → zgi g8 (m + 8) j = zgi g (m + 8) j) → zW (k g8) Q) : zW ((zrdR g m 12 16).bind fun v3 => zvs g m 12 <| (f_X12_oneOf m (48 : Int32) (4 : Int32) g).bind fun r4 => (zast 20 r4.2 v3 ((2 : Int32) * nI i) r4.1).bind fun g5 => (zrdR g5 m 12 16).bind fun v6 => zvs g5 m 12 <| (f_X12_oneOf m (49 : Int32) (8 : Int32) g5).bind fun r7 => (zast 20 r7.2 v6 (((2 : Int32) * nI i) + (1 : Int32)) (r7.1 + (1 : Int32))).bind k) Q := by
  have a1 := of_decide_eq_true o1
  have a2 := of_decide_eq_true o2
  have k1 : (l.take 17).getD (3 * i) 0 = l.getD (3 * i) 0 := vis_get a1.1
  have k2 : (l.take 17).getD (3 * i + 1) 0 = l.getD (3 * i + 1) 0 := vis_get a2.1
  rw [k1] at a1
  rw [k2] at a2
  refine w_rdR hR.s0 hR.r16 (w_vs hR.s0 ?_)
  have he := e_oneY (a := 48) (b := 4) hR.s0 hD h14 h15 (by omega) (by omega) o1
  rw [k1] at he
  rw [c_48, c_4, c_2, c_1, nI_mul, nI_add]
  refine w_eq he ?_
  dsimp only
  obtain ⟨g1, hg1⟩ : ∃ g1, g1 = zsetI g m 14 (nI (3 * i + 1)) := ⟨_, rfl⟩
  have J1 : zJ (fun a j => a = m ∧ j = 14) g g1 := by rw [hg1]; exact zJ.setI ⟨rfl, rfl⟩
  rw [← hg1, w20_80 (by rw [J1.sh]; exact hR.s8) (by omega), Option.bind_some]
  obtain ⟨g2, hg2⟩ : ∃ g2, g2 = zsetI g1 (m + 8) (2 * i) (nI (l.getD (3 * i) 0 - 48)) := ⟨_, rfl⟩
  have J2 : zJ (fun a j => a = m + 8 ∧ j = 2 * i) g1 g2 := by rw [hg2]; exact zJ.setI ⟨rfl, rfl⟩
  rw [← hg2]
  have R2 := (hR.J J1).J J2
  have D2 : RD g2 m (m + 6) 80 l 17 := (hD.J J1 (by omega) (by omega) (fun j => by omega)).J J2 (by omega) (by omega) (fun j => by omega)
  have e14 : zgi g2 m 14 = nI (3 * i + 1) := by rw [J2.gi (by omega), hg1, gi_sI, if_pos ⟨rfl, rfl⟩]
  have e15 : zgi g2 m 15 = -nI 1 := by rw [J2.gi (by omega), J1.gi (by omega)]; exact h15
  refine w_rdR R2.s0 R2.r16 (w_vs R2.s0 ?_)
  have he2 := e_oneY (a := 49) (b := 8) R2.s0 D2 e14 e15 (by omega) (by omega) o2
  rw [k2] at he2
  rw [c_49, c_8]
  refine w_eq he2 ?_
  dsimp only
  obtain ⟨g3, hg3⟩ : ∃ g3, g3 = zsetI g2 m 14 (nI (3 * i + 1 + 1)) := ⟨_, rfl⟩
  have J3 : zJ (fun a j => a = m ∧ j = 14) g2 g3 := by rw [hg3]; exact zJ.setI ⟨rfl, rfl⟩
  rw [← hg3, w20_80 (by rw [J3.sh]; exact R2.s8) (by omega), Option.bind_some, nI_add, show l.getD (3 * i + 1) 0 - 49 + 1 = l.getD (3 * i + 1) 0 - 48 by omega]
  have J4 : zJ (fun a j => a = m + 8 ∧ j = 2 * i + 1) g3 (zsetI g3 (m + 8) (2 * i + 1) (nI (l.getD (3 * i + 1) 0 - 48))) := zJ.setI ⟨rfl, rfl⟩
  refine hk _ ((((J1.mono (fun a j z => by omega)).trans (J2.mono (fun a j z => by omega))).trans (J3.mono (fun a j z => by omega))).trans (J4.mono (fun a j z => by omega))) ?_ ?_ ?_ ?_ (fun j hj => ?_)
  · rw [J4.gi (by omega), hg3, gi_sI, if_pos ⟨rfl, rfl⟩]
  · rw [J4.gi (by omega), J3.gi (by omega)]; exact e15
  · rw [J4.gi (by omega), J3.gi (by omega), hg2, gi_sI, if_pos ⟨rfl, rfl⟩]
  · rw [gi_sI, if_pos ⟨rfl, rfl⟩]
  · rw [J4.gi (by omega), J3.gi (by omega), J2.gi (by omega), J1.gi (by omega)]
/-- one of the digits of a line can't stand there -/
theorem r_twoN {i e : Nat} {k : ZS → Option β} (hR : LR m (zh g)) (hD : RD g m (m + 6) 80 l 17) (h14 : zgi g m 14 = nI (3 * i)) (h15 : zgi g m 15 = -nI 1) (hi : i < 6) (ho : hrIn (l.take 17) (3 * i) 48 (48 + 4) = false ∧ e = 3 * i ∨ hrIn (l.take 17) (3 * i) 48 (48 + 4) = true ∧ hrIn (l.take 17) (3 * i + 1) 49 (49 + 8) = false ∧ e = 3 * i + 1) (hk : ∀ g8, zJ (S8 m) g g8 → zgi g8 m 15 = nI e → zW (k g8) Q) : zW ((zrdR g m 12 16).bind fun v3 => zvs g m 12 <| (f_X12_oneOf m (48 : Int32) (4 : Int32) g).bind fun r4 => (zast 20 r4.2 v3 ((2 : Int32) * nI i) r4.1).bind fun g5 => (zrdR g5 m 12 16).bind fun v6 => zvs g5 m 12 <| (f_X12_oneOf m (49 : Int32) (8 : Int32) g5).bind fun r7 => (zast 20 r7.2 v6 (((2 : Int32) * nI i) + (1 : Int32)) (r7.1 + (1 : Int32))).bind k) Q := by
  refine w_rdR hR.s0 hR.r16 (w_vs hR.s0 ?_)
  rw [c_48, c_4, c_2, c_1, nI_mul, nI_add]
  have tail : ∀ (g2 : ZS) (z : Int32) (gz : ZS) (w : Int32), zJ (S8 m) g g2 → f_X12_oneOf m (nI 49) (nI 8) (zsetI g2 (m + 8) (2 * i) w) = some (z, gz) → zJ (S8 m) (zsetI g2 (m + 8) (2 * i) w) gz → zgi gz m 15 = nI e → zW ((zast 20 g2 (m + 8) (nI (2 * i)) w).bind fun g5 => (zrdR g5 m 12 16).bind fun v6 => zvs g5 m 12 <| (f_X12_oneOf m (49 : Int32) (8 : Int32) g5).bind fun r7 => (zast 20 r7.2 v6 (nI (2 * i + 1)) (r7.1 + nI 1)).bind k) Q := by
    intro g2 z gz w J2 hz Jz hw
    have R2 := hR.J J2
    rw [w20_80 R2.s8 (by omega), Option.bind_some]
    have J3 : zJ (S8 m) g2 (zsetI g2 (m + 8) (2 * i) w) := zJ.setI (Or.inr rfl)
    have R3 := R2.J J3
    refine w_rdR R3.s0 R3.r16 (w_vs R3.s0 ?_)
    rw [c_49, c_8]
    refine w_eq hz ?_
    dsimp only
    have R4 := R3.J Jz
    rw [w20_80 R4.s8 (by omega), Option.bind_some]
    have J5 : zJ (fun a j => a = m + 8) gz (zsetI gz (m + 8) (2 * i + 1) (z + nI 1)) := zJ.setI rfl
    exact hk _ (((J2.trans J3).trans Jz).trans (J5.mono (fun a j z => Or.inr z))) (by rw [J5.gi (by omega)]; exact hw)
  rcases ho with ⟨o1, rfl⟩ | ⟨o1, o2, rfl⟩
  · have he := e_oneN (a := 48) (b := 4) hR.s0 hD h14 (by omega) h15 (by omega) o1
    refine w_eq he ?_
    dsimp only
    have J1 : zJ (S8 m) g (zsetI g m 15 (nI (3 * i))) := zJ.setI (by omega)
    have J3 : zJ (fun a j => a = m + 8) (zsetI g m 15 (nI (3 * i))) (zsetI (zsetI g m 15 (nI (3 * i))) (m + 8) (2 * i) (nI 0)) := zJ.setI rfl
    have w15 : zgi (zsetI (zsetI g m 15 (nI (3 * i))) (m + 8) (2 * i) (nI 0)) m 15 = nI (3 * i) := by rw [J3.gi (by omega), gi_sI, if_pos ⟨rfl, rfl⟩]
    have s3 : zsh (zsetI (zsetI g m 15 (nI (3 * i))) (m + 8) (2 * i) (nI 0)) m = some (12, 0) := by rw [J3.sh, J1.sh]; exact hR.s0
    exact tail _ (nI 0) _ (nI 0) J1 (e_one0 s3 w15 (by omega)) zJ.rfl w15
  · have a1 := of_decide_eq_true o1
    have k1 : (l.take 17).getD (3 * i) 0 = l.getD (3 * i) 0 := vis_get a1.1
    have he := e_oneY (a := 48) (b := 4) hR.s0 hD h14 h15 (by omega) (by omega) o1
    rw [k1] at he
    refine w_eq he ?_
    dsimp only
    have J1 : zJ (fun a j => a = m ∧ j = 14) g (zsetI g m 14 (nI (3 * i + 1))) := zJ.setI ⟨rfl, rfl⟩
    have J3 : zJ (fun a j => a = m + 8) (zsetI g m 14 (nI (3 * i + 1))) (zsetI (zsetI g m 14 (nI (3 * i + 1))) (m + 8) (2 * i) (nI (l.getD (3 * i) 0 - 48))) := zJ.setI rfl
    have D3 : RD (zsetI (zsetI g m 14 (nI (3 * i + 1))) (m + 8) (2 * i) (nI (l.getD (3 * i) 0 - 48))) m (m + 6) 80 l 17 := (hD.J J1 (by omega) (by omega) (fun j => by omega)).J J3 (by omega) (by omega) (fun j => by omega)
    have w14 : zgi (zsetI (zsetI g m 14 (nI (3 * i + 1))) (m + 8) (2 * i) (nI (l.getD (3 * i) 0 - 48))) m 14 = nI (3 * i + 1) := by rw [J3.gi (by omega), gi_sI, if_pos ⟨rfl, rfl⟩]
    have w15 : zgi (zsetI (zsetI g m 14 (nI (3 * i + 1))) (m + 8) (2 * i) (nI (l.getD (3 * i) 0 - 48))) m 15 = -nI 1 := by rw [J3.gi (by omega), J1.gi (by omega)]; exact h15
    have s3 : zsh (zsetI (zsetI g m 14 (nI (3 * i + 1))) (m + 8) (2 * i) (nI (l.getD (3 * i) 0 - 48))) m = some (12, 0) := by rw [J3.sh, J1.sh]; exact hR.s0
    exact tail _ (nI 0) _ (nI (l.getD (3 * i) 0 - 48)) (J1.mono (fun a j z => by omega)) (e_oneN (a := 49) (b := 8) s3 D3 w14 (by omega) w15 (by omega) o2) (zJ.setI (by omega)) (by rw [gi_sI, if_pos ⟨rfl, rfl⟩])
/-- the lines are read; what comes then -/
theorem r_lines {Z : Int32 × ZS → Prop} (hN : 10000 ≤ N) (hR : LR m (zh g)) (hD : RD g m (m + 6) 80 l 17) (h1 : zgi g m 1 = nI (an A)) (hA : AI A c) (h14 : zgi g m 14 = nI 0) (h15 : zgi g m 15 = -nI 1) (hY : pq l (an A) = l.length → l.length % 3 = 2 → ∀ g', zJ (S8 m) g g' → (∀ i, i < (l.length + 1) / 3 → zgi g' (m + 8) (2 * i) = nI (l.getD (3 * i) 0 - 48) ∧ zgi g' (m + 8) (2 * i + 1) = nI (l.getD (3 * i + 1) 0 - 48)) → zW (zloop (fun s => f_X12_parrots_121 N m (nI ((l.length + 1) / 3)) s.1 s.2) N ((0 : Int32), g')) Z) (hX : ¬ (pq l (an A) = l.length ∧ l.length % 3 = 2) → ∀ g', zJ (S8 m) g g' → Z ((-1 : Int32) - nI (pq l (an A)), g')) : zW (zloop (fun s => f_X12_parrots_24 N m s.1 s.2.1 s.2.2) N ((0 : Int32), (1 : Int32), g)) Z := by
  have n6 := hA.1.1
  obtain ⟨q1, q2, q3, q4⟩ := pq_spec l (an A)
  generalize pq l (an A) = q at q1 q2 q3 q4 hY hX
  have hlt : (l.take 17).length = min 17 l.length := List.length_take
  -- lines that stand
  have st0 : ∀ i, 3 * i < q → hrIn (l.take 17) (3 * i) 48 (48 + 4) = true ∧ an A + i < 6 := fun i h => by
    have := of_decide_eq_true (pst0.symm.trans (q3 _ h))
    exact ⟨by rw [hrIn17 (by omega)]; exact decide_eq_true ⟨by omega, by omega, by omega⟩, this.2.2⟩
  have st1 : ∀ i, 3 * i + 1 < q → hrIn (l.take 17) (3 * i + 1) 49 (49 + 8) = true := fun i h => by
    have := of_decide_eq_true (pst1.symm.trans (q3 _ h))
    rw [hrIn17 (by omega)]; exact decide_eq_true ⟨by omega, by omega, by omega⟩
  have st2 : ∀ i, 3 * i + 2 < q → l.getD (3 * i + 2) 0 = 59 := fun i h => of_decide_eq_true (pst2.symm.trans (q3 _ h))
  have hRD : ∀ g', zJ (S8 m) g g' → RD g' m (m + 6) 80 l 17 := fun g' hJ => hD.J hJ (by omega) (by omega) (fun j => by omega)
  obtain ⟨n, hn⟩ : ∃ n, n = q / 3 := ⟨_, rfl⟩
  refine zW_for (fun i (s : Int32 × Int32 × ZS) => s.1 = nI i ∧ zJ (S8 m) g s.2.2 ∧ (i ≤ n → s.2.1 = nI 1 ∧ zgi s.2.2 m 14 = nI (3 * i) ∧ zgi s.2.2 m 15 = -nI 1) ∧ (n < i → s.2.1 = nI 0 ∧ ((q % 3 = 2 ∧ zgi s.2.2 m 14 = nI q ∧ zgi s.2.2 m 15 = -nI 1) ∨ q % 3 ≠ 2 ∧ zgi s.2.2 m 15 = nI q)) ∧ ((i ≤ n ∨ q % 3 = 2) → ∀ j, j < i → zgi s.2.2 (m + 8) (2 * j) = nI (l.getD (3 * j) 0 - 48) ∧ zgi s.2.2 (m + 8) (2 * j + 1) = nI (l.getD (3 * j + 1) 0 - 48))) (n + 1) (fun i s hi hs => ?_) (fun s hs => ?_) (by omega) (Nat.zero_le _) ⟨rfl, zJ.rfl, fun _ => ⟨rfl, h14, h15⟩, fun h => absurd h (Nat.not_lt_zero n), fun _ j hj => absurd hj (Nat.not_lt_zero j)⟩
  · obtain ⟨y1, y2, g2⟩ := s
    obtain ⟨a1, J2, a2, -, a4⟩ := hs
    dsimp only at a1 J2 a2 a4
    obtain ⟨a5, a6, a7⟩ := a2 (by omega)
    subst a1 a5
    have a4' := a4 (by omega)
    have R2 := hR.J J2
    have D2 := hRD g2 J2
    have p1 : zgi g2 m 1 = nI (an A) := by rw [J2.gi (by omega)]; exact h1
    show zW (f_X12_parrots_24 N m (nI i) (nI 1) g2) _
    unfold f_X12_parrots_24 f_X12_parrots_92
    rw [if_neg (show ¬ nI 1 = 0 by decide)]
    refine w_vs R2.s0 (w_eq (e_fine1 R2.s0 a7) ?_)
    rw [if_neg (show ¬ nI 1 = 0 by decide)]
    refine w_rdI R2.s0 p1 ?_
    rw [nI_add]
    by_cases e6 : an A + i = 6
    · -- no room
      have hq : q = 3 * i := by
        by_cases h : 3 * i < q
        · have := (st0 i h).2; omega
        · omega
      rw [if_pos (show nI (an A + i) = 6 by rw [e6]; rfl)]
      refine w_rdI R2.s0 a6 (w_vs R2.s0 (w_eq (e_fault1 R2.s0 a7) ?_))
      have J3 : zJ (S8 m) g2 (zsetI g2 m 15 (nI (3 * i))) := zJ.setI (by omega)
      have w15 : zgi (zsetI g2 m 15 (nI (3 * i))) m 15 = nI (3 * i) := by rw [gi_sI, if_pos ⟨rfl, rfl⟩]
      refine w_vs (by rw [J3.sh]; exact R2.s0) (w_eq (e_pass0 (by rw [J3.sh]; exact R2.s0) w15 (by omega)) ?_)
      rw [zW_some, zI_inl, c_1, nI_add]
      exact ⟨rfl, J2.trans J3, fun h => by omega, fun _ => ⟨rfl, Or.inr ⟨by omega, by rw [hq]; exact w15⟩⟩, fun h => by omega⟩
    · have hi5 : an A + i < 6 := by
        by_cases h : 3 * i < q
        · exact (st0 i h).2
        · by_cases h0 : i = 0
          · omega
          · have := (st0 (i - 1) (by omega)).2; omega
      rw [if_neg (show ¬ nI (an A + i) = 6 from fun h => e6 ((nI_eq (b := 6) (by omega) (by omega)).mp h))]
      by_cases hb : 3 * i + 1 < q
      · -- both digits stand
        refine r_two R2 D2 a6 a7 (by omega) (st0 i (by omega)).1 (st1 i hb) (fun g3 J3 b1 b2 b3 b4 b5 => ?_)
        have R3 := R2.J J3
        have D3 := hRD g3 (J2.trans J3)
        have cm : ∀ j, j < i + 1 → zgi g3 (m + 8) (2 * j) = nI (l.getD (3 * j) 0 - 48) ∧ zgi g3 (m + 8) (2 * j + 1) = nI (l.getD (3 * j + 1) 0 - 48) := fun j hj => by
          by_cases ej : j = i
          · subst ej; exact ⟨b3, b4⟩
          · rw [b5 _ (by omega), b5 _ (by omega)]; exact a4' j (by omega)
        rw [c_59, c_1, nI_add]
        by_cases hc2 : 3 * i + 2 < q
        · have hpy := e_passY (c := 59) R3.s0 D3 b1 b2 (by omega) (show 3 * i + 2 < (l.take 17).length by omega) (by rw [vis_get (by omega)]; exact st2 i hc2)
          refine w_vs R3.s0 (w_eq hpy ?_)
          dsimp only
          rw [zW_some, zI_inl]
          have J4 : zJ (fun a j => a = m ∧ j = 14) g3 (zsetI g3 m 14 (nI (3 * i + 2 + 1))) := zJ.setI ⟨rfl, rfl⟩
          refine ⟨rfl, (J2.trans J3).trans (J4.mono (fun a j z => by omega)), fun _ => ⟨rfl, ?_, ?_⟩, fun h => by omega, fun _ j hj => ?_⟩
          · dsimp only; rw [gi_sI, if_pos ⟨rfl, rfl⟩, show 3 * i + 2 + 1 = 3 * (i + 1) by omega]
          · dsimp only; rw [J4.gi (by omega)]; exact b2
          · dsimp only; rw [J4.gi (by omega), J4.gi (by omega)]; exact cm j hj
        · have hq : q = 3 * i + 2 := by omega
          have hpn := e_passN (c := 59) R3.s0 D3 b1 (by omega) b2 (by omega) (fun h => by
            rw [vis_get h]
            have h17 : 3 * i + 2 < 17 := by omega
            have := q4 (by omega) (by omega)
            rw [hq, pst2] at this
            exact of_decide_eq_false this)
          refine w_vs R3.s0 (w_eq hpn ?_)
          dsimp only
          rw [zW_some, zI_inl]
          exact ⟨rfl, J2.trans J3, fun h => by omega, fun _ => ⟨rfl, Or.inl ⟨by omega, by rw [hq]; exact b1, b2⟩⟩, fun _ => cm⟩
      · -- one of them doesn't
        have hcase : hrIn (l.take 17) (3 * i) 48 (48 + 4) = false ∧ q = 3 * i ∨ hrIn (l.take 17) (3 * i) 48 (48 + 4) = true ∧ hrIn (l.take 17) (3 * i + 1) 49 (49 + 8) = false ∧ q = 3 * i + 1 := by
          by_cases h : 3 * i < q
          · refine Or.inr ⟨(st0 i h).1, ?_, by omega⟩
            rw [hrIn17 (by omega)]
            refine decide_eq_false (fun h' => ?_)
            have := q4 (by omega) (by omega)
            rw [show q = 3 * i + 1 by omega, pst1] at this
            exact of_decide_eq_false this ⟨h'.2.1, by omega⟩
          · refine Or.inl ⟨?_, by omega⟩
            rw [hrIn17 (by omega)]
            refine decide_eq_false (fun h' => ?_)
            have := q4 (by omega) (by omega)
            rw [show q = 3 * i by omega, pst0] at this
            exact of_decide_eq_false this ⟨h'.2.1, by omega, hi5⟩
        refine r_twoN R2 D2 a6 a7 (by omega) hcase (fun g3 J3 w15 => ?_)
        have s3 : zsh g3 m = some (12, 0) := by rw [J3.sh]; exact R2.s0
        refine w_vs s3 (w_eq (e_pass0 s3 w15 (by omega)) ?_)
        rw [zW_some, zI_inl, c_1, nI_add]
        exact ⟨rfl, J2.trans J3, fun h => by omega, fun _ => ⟨rfl, Or.inr ⟨by omega, w15⟩⟩, fun h => by omega⟩
  · obtain ⟨y1, y2, g2⟩ := s
    obtain ⟨a1, J2, -, a3, a4⟩ := hs
    dsimp only at a1 J2 a3 a4
    obtain ⟨a5, a6⟩ := a3 (by omega)
    subst a1 a5
    have R2 := hR.J J2
    have D2 := hRD g2 J2
    show zW (f_X12_parrots_24 N m (nI (n + 1)) (nI 0) g2) _
    unfold f_X12_parrots_24 f_X12_parrots_105
    rw [if_pos (show nI 0 = 0 from rfl), zW_map]
    refine w_vs R2.s0 ?_
    rcases a6 with ⟨c1, c2, c3⟩ | ⟨c1, c2⟩
    · by_cases hl : l.length ≤ q
      · refine w_eq (e_right1 R2.s0 D2 c2 (by omega) c3 hl) ?_
        dsimp only
        rw [if_neg (show ¬ nI 1 = 0 by decide)]
        have hql : q = l.length := by omega
        have hn1 : (l.length + 1) / 3 = n + 1 := by omega
        have := hY hql (by omega) g2 J2 (fun i hi => a4 (Or.inr c1) i (by omega))
        rw [hn1] at this
        exact this
      · refine w_eq (e_rightN R2.s0 D2 c2 c3 (by omega)) ?_
        dsimp only
        rw [if_pos (show nI 0 = 0 from rfl)]
        refine w_rdI (by rw [sh_sI]; exact R2.s0) (show zgi (zsetI g2 m 15 (nI q)) m 15 = nI q by rw [gi_sI, if_pos ⟨rfl, rfl⟩]) ?_
        rw [zW_some]
        exact hX (by omega) _ (J2.setI' (by omega))
    · refine w_eq (e_right0 R2.s0 c2 (by omega)) ?_
      dsimp only
      rw [if_pos (show nI 0 = 0 from rfl)]
      refine w_rdI R2.s0 c2 ?_
      rw [zW_some]
      exact hX (by omega) _ J2
end PR
