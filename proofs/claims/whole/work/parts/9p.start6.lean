/-! ===== the start: the other object, and the law ===== -/
theorem X12_md {g0 g : ZS} {m : Nat} (hq : zsz g0 = m) (f : zFr g0 (12, 0) g) : zW (f_X12_init m g) (fun g' => zsz g' = m + 33 ∧ zBl m g g' ∧ RI m g' A0) := by
  unfold f_X12_init
  have h0 := zBd.start (ci := 12) (s := m) (L := 1000) (w := m + 3) (Z := fun a => a = m + 3 ∨ a = m + 5) hq f
  refine w_al 2 h0 rfl (by omega) (fun g1 h1 => ?_)
  dsimp only
  refine w_wr h1 (by omega) (Or.inr (by omega)) (fun g2 h2 => ?_)
  refine w_al 3 h2 rfl (by omega) (fun g3 h3 => ?_)
  dsimp only
  refine w_wr h3 (by omega) (Or.inr (by omega)) (fun g4 h4 => ?_)
  refine w_al 4 h4 rfl (by omega) (fun g5 h5 => ?_)
  dsimp only
  refine w_one 1 h5 rfl h5.2.2.2.2.2.2.2.2 (by decide) (by decide) ⟨by omega, by omega⟩ (by omega) (fun g6 h6 => ?_)
  refine w_one 2 h6 rfl h6.2.2.2.2.2.2.2.2 (by decide) (by decide) ⟨by omega, by omega⟩ (by omega) (fun g7 h7 => ?_)
  refine w_one 3 h7 rfl h7.2.2.2.2.2.2.2.2 (by decide) (by decide) ⟨by omega, by omega⟩ (by omega) (fun g8 h8 => ?_)
  refine w_one 4 h8 rfl h8.2.2.2.2.2.2.2.2 (by decide) (by decide) ⟨by omega, by omega⟩ (by omega) (fun g9 h9 => ?_)
  refine w_one 5 h9 rfl h9.2.2.2.2.2.2.2.2 (by decide) (by decide) ⟨by omega, by omega⟩ (by omega) (fun g10 h10 => ?_)
  refine w_one 6 h10 rfl h10.2.2.2.2.2.2.2.2 (by decide) (by decide) ⟨by omega, by omega⟩ (by omega) (fun g11 h11 => ?_)
  refine w_one 7 h11 rfl h11.2.2.2.2.2.2.2.2 (by decide) (by decide) ⟨by omega, by omega⟩ (by omega) (fun g12 h12 => ?_)
  refine w_one 8 h12 rfl h12.2.2.2.2.2.2.2.2 (by decide) (by decide) ⟨by omega, by omega⟩ (by omega) (fun g13 h13 => ?_)
  have h14 := h13.seal (m + 5) ⟨by omega, by omega⟩ (by omega)
  clear h13
  refine w_wr h14 (by omega) (Or.inr (by omega)) (fun g15 h15 => ?_)
  refine w_al 5 h15 rfl (by omega) (fun g16 h16 => ?_)
  dsimp only
  refine w_wr h16 (by omega) (Or.inr (by omega)) (fun g17 h17 => ?_)
  refine w_al 6 h17 rfl (by omega) (fun g18 h18 => ?_)
  dsimp only
  refine w_one 1 h18 rfl h18.2.2.2.2.2.2.2.2 (by decide) (by decide) ⟨by omega, by omega⟩ (by omega) (fun g19 h19 => ?_)
  refine w_one 2 h19 rfl h19.2.2.2.2.2.2.2.2 (by decide) (by decide) ⟨by omega, by omega⟩ (by omega) (fun g20 h20 => ?_)
  refine w_one 3 h20 rfl h20.2.2.2.2.2.2.2.2 (by decide) (by decide) ⟨by omega, by omega⟩ (by omega) (fun g21 h21 => ?_)
  refine w_one 4 h21 rfl h21.2.2.2.2.2.2.2.2 (by decide) (by decide) ⟨by omega, by omega⟩ (by omega) (fun g22 h22 => ?_)
  have h23 := h22.seal (m + 1000) ⟨by omega, by omega⟩ (by omega)
  clear h22
  refine w_wr h23 (by omega) (Or.inr (by omega)) (fun g24 h24 => ?_)
  refine w_al 7 h24 rfl (by omega) (fun g25 h25 => ?_)
  dsimp only
  refine w_wr h25 (by omega) (Or.inr (by omega)) (fun g26 h26 => ?_)
  refine w_al 8 h26 rfl (by omega) (fun g27 h27 => ?_)
  dsimp only
  refine w_wr h27 (by omega) (Or.inr (by omega)) (fun g28 h28 => ?_)
  refine w_al 9 h28 rfl (by omega) (fun g29 h29 => ?_)
  dsimp only
  refine w_wr h29 (by omega) (Or.inr (by omega)) (fun g30 h30 => ?_)
  refine w_al 10 h30 rfl (by omega) (fun g31 h31 => ?_)
  dsimp only
  refine w_wr h31 (by omega) (Or.inr (by omega)) (fun g32 h32 => ?_)
  refine w_al 11 h32 rfl (by omega) (fun g33 h33 => ?_)
  dsimp only
  refine w_wr h33 (by omega) (Or.inr (by omega)) (fun g34 h34 => ?_)
  refine w_al 12 h34 rfl (by omega) (fun g35 h35 => ?_)
  dsimp only
  refine w_wr h35 (by omega) (Or.inr (by omega)) (fun g36 h36 => ?_)
  refine w_al 13 h36 rfl (by omega) (fun g37 h37 => ?_)
  dsimp only
  refine w_wr h37 (by omega) (Or.inr (by omega)) (fun g38 h38 => ?_)
  refine w_al 14 h38 rfl (by omega) (fun g39 h39 => ?_)
  dsimp only
  refine w_wr h39 (by omega) (Or.inr (by omega)) (fun g40 h40 => ?_)
  refine w_al 15 h40 rfl (by omega) (fun g41 h41 => ?_)
  dsimp only
  refine w_wr h41 (by omega) (Or.inr (by omega)) (fun g42 h42 => ?_)
  refine w_al 16 h42 rfl (by omega) (fun g43 h43 => ?_)
  dsimp only
  refine w_wr h43 (by omega) (Or.inr (by omega)) (fun g44 h44 => ?_)
  refine w_al 17 h44 rfl (by omega) (fun g45 h45 => ?_)
  dsimp only
  refine w_wr h45 (by omega) (Or.inr (by omega)) (fun g46 h46 => ?_)
  refine w_al 18 h46 rfl (by omega) (fun g47 h47 => ?_)
  dsimp only
  refine w_wr h47 (by omega) (Or.inr (by omega)) (fun g48 h48 => ?_)
  refine w_al 19 h48 rfl (by omega) (fun g49 h49 => ?_)
  dsimp only
  refine w_wr h49 (by omega) (Or.inr (by omega)) (fun g50 h50 => ?_)
  refine w_al 20 h50 rfl (by omega) (fun g51 h51 => ?_)
  dsimp only
  refine w_wr h51 (by omega) (Or.inr (by omega)) (fun g52 h52 => ?_)
  refine w_al 21 h52 rfl (by omega) (fun g53 h53 => ?_)
  dsimp only
  refine w_wr h53 (by omega) (Or.inr (by omega)) (fun g54 h54 => ?_)
  refine w_al 22 h54 rfl (by omega) (fun g55 h55 => ?_)
  dsimp only
  refine w_wr h55 (by omega) (Or.inr (by omega)) (fun g56 h56 => ?_)
  refine w_al 23 h56 rfl (by omega) (fun g57 h57 => ?_)
  dsimp only
  refine w_wr h57 (by omega) (Or.inr (by omega)) (fun g58 h58 => ?_)
  refine w_al 24 h58 rfl (by omega) (fun g59 h59 => ?_)
  dsimp only
  refine w_wr h59 (by omega) (Or.inr (by omega)) (fun g60 h60 => ?_)
  refine w_al 25 h60 rfl (by omega) (fun g61 h61 => ?_)
  dsimp only
  refine w_wr h61 (by omega) (Or.inr (by omega)) (fun g62 h62 => ?_)
  refine w_al 26 h62 rfl (by omega) (fun g63 h63 => ?_)
  dsimp only
  refine w_wr h63 (by omega) (Or.inr (by omega)) (fun g64 h64 => ?_)
  refine w_al 27 h64 rfl (by omega) (fun g65 h65 => ?_)
  dsimp only
  refine w_wr h65 (by omega) (Or.inr (by omega)) (fun g66 h66 => ?_)
  refine w_al 28 h66 rfl (by omega) (fun g67 h67 => ?_)
  dsimp only
  refine w_wr h67 (by omega) (Or.inr (by omega)) (fun g68 h68 => ?_)
  refine w_al 29 h68 rfl (by omega) (fun g69 h69 => ?_)
  dsimp only
  refine w_wr h69 (by omega) (Or.inr (by omega)) (fun g70 h70 => ?_)
  refine w_al 30 h70 rfl (by omega) (fun g71 h71 => ?_)
  dsimp only
  refine w_wr h71 (by omega) (Or.inr (by omega)) (fun g72 h72 => ?_)
  refine w_al 31 h72 rfl (by omega) (fun g73 h73 => ?_)
  dsimp only
  refine w_wr h73 (by omega) (Or.inr (by omega)) (fun g74 h74 => ?_)
  refine w_al 32 h74 rfl (by omega) (fun g75 h75 => ?_)
  dsimp only
  refine w_wr h75 (by omega) (Or.inr (by omega)) (fun g76 h76 => ?_)
  refine w_al 33 h76 rfl (by omega) (fun g77 h77 => ?_)
  dsimp only
  refine w_wr h77 (by omega) (Or.inr (by omega)) (fun g78 h78 => ?_)
  rw [zW_some]
  obtain ⟨hz, -, hs0, hbl, hzero, -, -, hP⟩ := h78
  obtain ⟨⟨⟨⟨⟨⟨⟨⟨⟨⟨⟨⟨⟨⟨⟨⟨⟨⟨⟨⟨⟨⟨⟨⟨⟨⟨⟨⟨⟨⟨⟨⟨⟨⟨⟨⟨⟨⟨⟨⟨⟨⟨⟨⟨⟨⟨⟨⟨⟨⟨⟨⟨⟨⟨⟨⟨⟨⟨⟨⟨⟨⟨⟨⟨⟨⟨-, s1⟩, r0⟩, s2⟩, r2⟩, s3⟩, o3⟩, r3⟩, s4⟩, r4⟩, s5⟩, o5⟩, r5⟩, s6⟩, r6⟩, s7⟩, r8⟩, s8⟩, r16⟩, s9⟩, r17⟩, s10⟩, r18⟩, s11⟩, r21⟩, s12⟩, r22⟩, s13⟩, r23⟩, s14⟩, r24⟩, s15⟩, r25⟩, s16⟩, r27⟩, s17⟩, r28⟩, s18⟩, r29⟩, s19⟩, r30⟩, s20⟩, r31⟩, s21⟩, r32⟩, s22⟩, r33⟩, s23⟩, r34⟩, s24⟩, r35⟩, s25⟩, r37⟩, s26⟩, r38⟩, s27⟩, r39⟩, s28⟩, r40⟩, s29⟩, r42⟩, s30⟩, r45⟩, s31⟩, r46⟩, s32⟩, r47⟩ := hP
  have hLR : LR m (zh g78) := ⟨hs0, s1, s2, s3, s4, s5, s6, s7, s8, s9, s10, s11, s12, s13, s14, s15, s16, s17, s18, s19, s20, s21, s22, s23, s24, s25, s26, s27, s28, s29, s30, s31, s32, r0, r2, r3, r4, r5, r6, r8, r16, r21, r22, r23, r24, r25, r27, r28, r29, r30, r31, r32, r33, r34, r35, r37, r38, r39, r40, r42, r45, r46, r47⟩
  have zr : ∀ a j, m ≤ a → a < m + 33 → a ≠ m + 3 → a ≠ m + 5 → zgi g78 a j = nI 0 := fun a j y z c d => hzero a j y z (fun h => by omega)
  have z0 : ∀ j, zgi g78 m j = nI 0 := fun j => zr m j (by omega) (by omega) (by omega) (by omega)
  refine ⟨hz, hbl, ⟨hLR, r18, ⟨r17, s9, z0 _, fun j hj => absurd hj (Nat.not_lt_zero j)⟩, ⟨z0 _, by decide, fun j hj => absurd hj (Nat.not_lt_zero j)⟩, fun h hh => ⟨o5 h hh, fun i hi => ?_⟩, fun w hw => o3 w hw, ⟨z0 _, fun p hp => absurd hp (Nat.not_lt_zero p), zr _ _ (by omega) (by omega) (by omega) (by omega), fun p hp => absurd hp (Nat.not_lt_zero p)⟩, ⟨z0 _, by decide, fun i hi => absurd hi (Nat.not_lt_zero i)⟩, ⟨z0 _, fun i hi => ⟨zr _ _ (by omega) (by omega) (by omega) (by omega), fun u k q h => by cases h⟩⟩, ⟨z0 _, fun i hi => absurd hi (Nat.not_lt_zero i)⟩, ⟨z0 _, fun i hi => absurd hi (Nat.not_lt_zero i)⟩⟩, z0 _, by decide, fun j hj => absurd hj (Nat.not_lt_zero j)⟩
  have hi0 : i = 0 := by have : i < 1 := hi; omega
  subst hi0
  exact zr _ _ (by omega) (by omega) (by omega) (by omega)
theorem law_1 {N b L B0 : Nat} {xs : Nat → Int32} (hN : 10000 ≤ N) (hL : L ≤ 2560) (hb : b < B0) : zW (f_L_law N b (zstart b L xs B0)) (fun o => o.1 = 1) := by
  unfold f_L_law
  have z0 : zsz (zstart b L xs B0) = B0 := rfl
  have s0 : zsh (zstart b L xs B0) b = some (28, L) := if_pos rfl
  refine w_nw z0 (fun g1 f1 => ?_)
  dsimp only
  refine (X11_md z0 f1).bind (fun g2 h2 => ?_)
  obtain ⟨z2, b2, C2⟩ := h2
  refine w_nw z2 (fun g3 f3 => ?_)
  dsimp only
  refine (X12_md z2 f3).bind (fun g4 h4 => ?_)
  obtain ⟨z4, b4, R4⟩ := h4
  refine w_nw z4 (fun g5 f5 => ?_)
  dsimp only
  have B24 : zBl (B0 + 581) g2 g4 := (f3.bl (by omega)).trans b4 (by omega)
  have B45 : zBl (B0 + 581 + 33) g4 g5 := f5.bl (by omega)
  have B25 : zBl (B0 + 581) g2 g5 := B24.trans B45 (by omega)
  have C5 : CI B0 g5 A0 := C2.byX (lo := B0 + 581) (hi := B0 + 581) AI0 ⟨by rw [f5.1, z4, z2]; omega, fun a ha _ => B25 a (by omega)⟩ (by omega) (by omega)
  have R5 : RI (B0 + 581) g5 A0 := R4.byX (lo := B0 + 581 + 33) (hi := B0 + 581 + 33) AI0 ⟨by rw [f5.1]; omega, fun a ha _ => B45 a (by omega)⟩ (by omega) (by omega)
  have e1 : zsh g5 b = some (28, L) := by
    rw [(B25 b (by omega)).1, (b2 b (by omega)).1, f1.2.1, if_neg (by omega)]; exact s0
  exact l_loop (b := b) (L := L) (x := B0) (A := A0) hN (lb_all hN) ⟨e1, hb, hL, C5, R5, by rw [f5.2.1, if_pos (by omega)], by rw [f5.1]; omega, AI0⟩
