/-! ===== counsels ===== -/
def cmx (a b : Int32) : Int32 := if a < b then b else a
def cvl (W : Nat → Int32) : Nat → Nat → Int32
  | _, 0 => nI 0
  | a, s + 1 => cmx (W a - cvl W (a + 1) s) (W (a + s) - cvl W a s)
def chl (W : Nat → Int32) (a s : Nat) : Int32 := if W (a + s) - cvl W a s ≤ W a - cvl W (a + 1) s then 0 else 1
theorem cvl_s {W : Nat → Int32} {a s : Nat} : cvl W a (s + 1) = cmx (W a - cvl W (a + 1) s) (W (a + s) - cvl W a s) := rfl
theorem i0s {v : Int32} : v - nI 0 = v := Int32.sub_zero v
theorem cvl_1 {W : Nat → Int32} {a : Nat} : cvl W a 1 = W a := by
  show cmx (W a - nI 0) (W (a + 0) - nI 0) = W a
  rw [i0s, Nat.add_zero, i0s]
  unfold cmx
  rw [if_neg (fun h => Int32.lt_irrefl h)]
theorem chl_0 {W : Nat → Int32} {a : Nat} : chl W a 0 = 0 := by
  show (if W (a + 0) - nI 0 ≤ W a - nI 0 then (0 : Int32) else 1) = 0
  rw [if_pos (by rw [Nat.add_zero]; exact Int32.le_refl _)]
theorem e_cmx {a b : Int32} : f_J9_max_7cf53 a b = some (cmx a b) := mx
def chlN (W : Nat → Int32) (n : Nat) : Int32 := if n = 0 then -1 else chl W 0 (n - 1)
section CO
variable {N : Nat}
theorem c_play {x c : Nat} {g : ZS} {A : ZA} {l : List Nat} (hN : 10000 ≤ N) (hC : CJ x g A) (hA : AI A c) (hT : TS g (x + 480) l) : zW (f_X11_playCounsels N x g) (fun o => o.1 = cvl (fun i => nI (aW A (l.getD i 0))) 0 l.length ∧ zJ (Scr x) g o.2 ∧ XR o.2 (x + 3) (x + 4) [(chlN (fun i => nI (aW A (l.getD i 0))) l.length).toInt64]) := by
  obtain ⟨k1, k2, k3⟩ := id hT
  obtain ⟨t1, t2, t3, t4, t5, t6, t7, t8⟩ := hC.1.TL480.f
  have hWs := hC.2.2.2.1
  obtain ⟨W, hWd⟩ : ∃ W : Nat → Int32, W = fun i => nI (aW A (l.getD i 0)) := ⟨_, rfl⟩
  rw [← hWd]
  have hWe : ∀ i, nI (aW A (l.getD i 0)) = W i := fun i => by rw [hWd]
  obtain ⟨n, hn⟩ : ∃ n, n = l.length := ⟨_, rfl⟩
  rw [← hn] at k1 k2 k3 ⊢
  unfold f_X11_playCounsels
  refine w_rdR hC.1.s0 hC.1.r0_12 (w_rdI t1 k1 ?_)
  have main : ∀ s0 : Int32, s0 = (if n = 0 then -1 else 0) → zW (f_X11_playCounsels_17 N x (nI n) s0 g) (fun o => o.1 = cvl W 0 n ∧ zJ (Scr x) g o.2 ∧ XR o.2 (x + 3) (x + 4) [(chlN W n).toInt64]) := by
    intro s0 hs0
    unfold f_X11_playCounsels_17
    refine zW_forI (fun i g' => zJ (fun a _ => a = x + 516) g g' ∧ ∀ j, j < i → zgi g' (x + 516) j = W j) n (fun i g' hi hI => ?_) (fun g' hI => ?_) (by omega) (Nat.zero_le _) ⟨zJ.rfl, fun j hj => absurd hj (Nat.not_lt_zero j)⟩
    · obtain ⟨J, e⟩ := hI
      have C1 := hC.keep hA J (fun a j z => by omega)
      have e1 : zgi g' (x + 480 + 1) i = nI (l.getD i 0) := by rw [J.gi (by omega)]; exact (k3 i hi).1
      have e2 := (k3 i hi).2
      show zW (f_X11_playCounsels_20 N x (nI n) s0 (nI i) g') _
      unfold f_X11_playCounsels_20
      rw [if_neg (nI_ge hi (by omega))]
      refine w_rdR C1.1.s0 C1.1.r0_17 (w_rdR C1.1.s0 C1.1.r0_3 (w_rdR C1.1.s0 C1.1.r0_12 (w_rdR C1.1.TL480.f.1 C1.1.TL480.f.2.2.2.2.1 ?_)))
      rw [a20_8 C1.1.TL480.f.2.1 (by omega), e1, Option.bind_some, a20_8 C1.1.s12 e2, C1.2.2.2.1 _ e2, Option.bind_some, w20_8 C1.1.s516 (by omega), Option.bind_some, zW_some, zI_inl, c_1, nI_add, hWe]
      refine ⟨rfl, J.setI' rfl, fun j hj => ?_⟩
      rw [gi_sI]
      by_cases h : j = i
      · subst h; rw [if_pos ⟨rfl, rfl⟩]
      · rw [if_neg (by omega)]; exact e j (by omega)
    · obtain ⟨J, e⟩ := hI
      show zW (f_X11_playCounsels_20 N x (nI n) s0 (nI n) g') _
      unfold f_X11_playCounsels_20
      rw [if_pos (nI_le (Nat.le_refl _) (by omega)), zW_map]
      refine zW_for (fun i (s : Int32 × Int32 × ZS) => 2 ≤ i ∧ s.1 = (if n = 0 then -1 else chl W (n + 1 - i) (i - 2)) ∧ s.2.1 = nI i ∧ zJ (fun a _ => a = x + 516) g s.2.2 ∧ ∀ j, j + (i - 1) ≤ n → j < n → zgi s.2.2 (x + 516) j = cvl W j (i - 1)) (max 2 (n + 1)) (fun i s hi hs => ?_) (fun s hs => ?_) (by omega) (show 2 ≤ max 2 (n + 1) by omega) ⟨Nat.le_refl _, by rw [chl_0]; exact hs0, rfl, J, fun j hj hjn => by rw [cvl_1]; exact e j hjn⟩
      · obtain ⟨y1, y2, g2⟩ := s
        obtain ⟨h0, h1, h2, h3, h4⟩ := hs
        dsimp only at h1 h2 h3 h4
        have hin : i ≤ n := by omega
        rw [if_neg (by omega)] at h1
        subst h2
        show zW (f_X11_playCounsels_53 N x (nI n) y1 (nI i) g2) _
        unfold f_X11_playCounsels_53
        rw [if_neg (nI_nlt hin (by omega))]
        refine zW_for (fun q (s : Int32 × Int32 × ZS) => s.1 = (if q = 0 then y1 else chl W (q - 1) (i - 1)) ∧ s.2.1 = nI q ∧ zJ (fun a _ => a = x + 516) g s.2.2 ∧ ∀ j, j < n → ((j < q → j + i ≤ n → zgi s.2.2 (x + 516) j = cvl W j i) ∧ (q ≤ j → j + (i - 1) ≤ n → zgi s.2.2 (x + 516) j = cvl W j (i - 1)))) (n + 1 - i) (fun q s hq hs => ?_) (fun s hs => ?_) (by omega) (Nat.zero_le _) ⟨rfl, rfl, h3, fun j hj => ⟨fun h => absurd h (Nat.not_lt_zero j), fun _ h => h4 j h hj⟩⟩
        · obtain ⟨z1, z2, g3⟩ := s
          obtain ⟨p1, p2, p3, p4⟩ := hs
          dsimp only at p1 p2 p3 p4
          subst p2
          have C3 := hC.keep hA p3 (fun a j z => by omega)
          have e1 : zgi g3 (x + 480 + 1) q = nI (l.getD q 0) := by rw [p3.gi (by omega)]; exact (k3 q (by omega)).1
          have e2 : zgi g3 (x + 480 + 1) (q + i - 1) = nI (l.getD (q + i - 1) 0) := by rw [p3.gi (by omega)]; exact (k3 _ (by omega)).1
          have e3 := (k3 q (by omega)).2
          have e4 := (k3 (q + i - 1) (by omega)).2
          have v1 : zgi g3 (x + 516) (q + 1) = cvl W (q + 1) (i - 1) := (p4 (q + 1) (by omega)).2 (by omega) (by omega)
          have v2 : zgi g3 (x + 516) q = cvl W q (i - 1) := (p4 q (by omega)).2 (by omega) (by omega)
          show zW (f_X11_playCounsels_61 N x (nI n) z1 (nI i) (nI q) g3) _
          unfold f_X11_playCounsels_61 f_X11_playCounsels_151
          rw [nI_add, if_neg (nI_nlt (by omega) (by omega))]
          refine w_rdR C3.1.s0 C3.1.r0_3 (w_rdR C3.1.s0 C3.1.r0_12 (w_rdR C3.1.TL480.f.1 C3.1.TL480.f.2.2.2.2.1 ?_))
          rw [a20_8 C3.1.TL480.f.2.1 (by omega), e1, Option.bind_some, a20_8 C3.1.s12 e3, C3.2.2.2.1 _ e3, Option.bind_some]
          refine w_rdR C3.1.s0 C3.1.r0_17 ?_
          rw [c_1, nI_add, a20_8 C3.1.s516 (by omega), v1, Option.bind_some]
          refine w_rdR C3.1.s0 C3.1.r0_3 (w_rdR C3.1.s0 C3.1.r0_12 (w_rdR C3.1.TL480.f.1 C3.1.TL480.f.2.2.2.2.1 ?_))
          rw [nI_sub (by omega), a20_8 C3.1.TL480.f.2.1 (by omega), e2, Option.bind_some, a20_8 C3.1.s12 e4, C3.2.2.2.1 _ e4, Option.bind_some]
          refine w_rdR C3.1.s0 C3.1.r0_17 ?_
          rw [a20_8 C3.1.s516 (by omega), v2, Option.bind_some]
          refine w_rdR C3.1.s0 C3.1.r0_17 (w_eq e_cmx ?_)
          rw [w20_8 C3.1.s516 (by omega), Option.bind_some, hWe, hWe]
          have hcv : cvl W q i = cmx (W q - cvl W (q + 1) (i - 1)) (W (q + i - 1) - cvl W q (i - 1)) := by
            obtain ⟨s, rfl⟩ : ∃ s, i = s + 1 := ⟨i - 1, by omega⟩
            rw [cvl_s, Nat.add_sub_cancel, show q + (s + 1) - 1 = q + s by omega]
          have hch : chl W q (i - 1) = if W (q + i - 1) - cvl W q (i - 1) ≤ W q - cvl W (q + 1) (i - 1) then 0 else 1 := by
            unfold chl
            rw [show q + (i - 1) = q + i - 1 by omega]
          rw [← hcv]
          have put : ∀ j, j < n → ((j < q + 1 → j + i ≤ n → zgi (zsetI g3 (x + 516) q (cvl W q i)) (x + 516) j = cvl W j i) ∧ (q + 1 ≤ j → j + (i - 1) ≤ n → zgi (zsetI g3 (x + 516) q (cvl W q i)) (x + 516) j = cvl W j (i - 1))) := fun j hj => by
            refine ⟨fun h5 h6 => ?_, fun h5 h6 => ?_⟩
            · rw [gi_sI]
              by_cases h : j = q
              · subst h; rw [if_pos ⟨rfl, rfl⟩]
              · rw [if_neg (by omega)]; exact (p4 j hj).1 (by omega) h6
            · rw [gi_sI, if_neg (by omega)]; exact (p4 j hj).2 (by omega) h6
          by_cases e : W (q + i - 1) - cvl W q (i - 1) ≤ W q - cvl W (q + 1) (i - 1)
          · rw [if_pos e, zW_some, zI_inl]
            exact ⟨by rw [if_neg (by omega), Nat.add_sub_cancel, hch, if_pos e], rfl, p3.setI' rfl, put⟩
          · rw [if_neg e, zW_some, zI_inl]
            exact ⟨by rw [if_neg (by omega), Nat.add_sub_cancel, hch, if_neg e]; rfl, rfl, p3.setI' rfl, put⟩
        · obtain ⟨z1, z2, g3⟩ := s
          obtain ⟨p1, p2, p3, p4⟩ := hs
          dsimp only at p1 p2 p3 p4
          subst p2
          rw [if_neg (by omega)] at p1
          show zW (f_X11_playCounsels_61 N x (nI n) z1 (nI i) (nI (n + 1 - i)) g3) _
          unfold f_X11_playCounsels_61
          rw [nI_add, if_pos (nI_lt (by omega) (by omega)), Option.map_some, zW_some, zI_inr, zI_inl, c_1, nI_add]
          refine ⟨by omega, by rw [if_neg (by omega), p1, show n + 1 - i - 1 = n + 1 - (i + 1) by omega, show i + 1 - 2 = i - 1 by omega], rfl, p3, fun j h5 h6 => ?_⟩
          rw [Nat.add_sub_cancel] at h5 ⊢
          exact (p4 j h6).1 (by omega) h5
      · obtain ⟨y1, y2, g2⟩ := s
        obtain ⟨h0, h1, h2, h3, h4⟩ := hs
        dsimp only at h1 h2 h3 h4
        subst h2
        have C2 := hC.keep hA h3 (fun a j z => by omega)
        show zW (f_X11_playCounsels_53 N x (nI n) y1 (nI (max 2 (n + 1))) g2) _
        unfold f_X11_playCounsels_53 f_X11_playCounsels_187
        rw [if_pos (nI_lt (by omega) (by omega)), zW_map]
        have hy : y1 = chlN W n := by
          rw [h1]
          unfold chlN
          by_cases e0 : n = 0
          · rw [if_pos e0, if_pos e0]
          · rw [if_neg e0, if_neg e0, show max 2 (n + 1) = n + 1 by omega, show n + 1 - (n + 1) = 0 by omega, show n + 1 - 2 = n - 1 by omega]
        rw [hy]
        refine c_only C2 hA (fun g3 J3 X3 C3 => ?_)
        have J4 : zJ (Scr x) g g3 := (h3.mono (fun a j z => by omega)).trans (J3.mono (fun a j z => by omega))
        by_cases e0 : n = 0
        · rw [if_pos (by rw [e0]; rfl), zW_some, zI_inr, e0]
          rw [e0] at X3
          exact ⟨rfl, J4, X3⟩
        · rw [if_neg (nI_ne0 (by omega) (by omega))]
          have e4 := h4 0 (by omega) (by omega)
          refine w_rdR C3.1.s0 C3.1.r0_17 ?_
          rw [c_0, a20_8 C3.1.s516 (by omega), J3.gi (by omega), e4, Option.bind_some, zW_some, zI_inr, show max 2 (n + 1) - 1 = n by omega]
          exact ⟨rfl, J4, X3⟩
  by_cases e0 : n = 0
  · rw [if_pos (by rw [e0]; rfl)]
    exact main _ (by rw [if_pos e0])
  · rw [if_neg (nI_ne0 (by omega) (by omega))]
    exact main _ (by rw [if_neg e0])
theorem k_counsels (hN : 10000 ≤ N) (v : Int32) : Call (fun x g => f_X11_counsels N x v g) (fun m g => f_X12_counsels N m v g) := call_q (fun x m c g A hC hA hc => by
  have n6 := hA.1.1
  cases hv : rb v 0 (an A) with
  | false =>
    refine ⟨-1, aR A, hA.2.2.2.2.1, ?_, fun g' hR => ?_⟩
    · unfold QC f_X11_counsels
      refine w_vs hC.1.1.s0 (w_eq (e_ip11 hC.1 hA) ?_)
      rw [if_pos (bI_eq hv), zW_some]
      exact ⟨rfl, zJ.rfl, hC.2⟩
    · unfold QF f_X12_counsels
      refine r_start hR hA (fun g1 J0 hR1 _ => ?_)
      refine w_vs hR1.1.1.s0 (w_eq (e_ip hR1.1 hA) ?_)
      rw [if_pos (bI_eq hv), zW_some]
      exact ⟨rfl, J0, hR1.2⟩
  | true =>
    obtain ⟨p, -, hp, rfl⟩ := rb_t hv (by omega)
    have hl8 : (sayA A (aB A p) (ame A p)).length ≤ 8 := says_len
    have hlt := fun j hj => (sayA_lt (A := A) (b := aB A p) (me := ame A p) (j := j) hj).1
    refine ⟨(100 : Int32) + cvl (fun i => nI (aW A ((sayA A (aB A p) (ame A p)).getD i 0))) 0 (sayA A (aB A p) (ame A p)).length, [(chlN (fun i => nI (aW A ((sayA A (aB A p) (ame A p)).getD i 0))) (sayA A (aB A p) (ame A p)).length).toInt64], by simp, ?_, fun g' hR => ?_⟩
    · unfold QC f_X11_counsels
      refine w_vs hC.1.1.s0 (w_eq (e_ip11 hC.1 hA) ?_)
      rw [if_neg (bI_ne hv)]
      refine c_say hN hC.1 hA hp (Or.inl ⟨rfl, rfl⟩) (fun g1 J1 T1 C1 => ?_)
      refine w_vs C1.1.s0 ((c_play hN C1 hA T1).bind (fun o ho => ?_))
      rw [zW_some, ho.1]
      exact ⟨rfl, (J1.mono (fun a j z => by omega)).trans ho.2.1, ho.2.2⟩
    · unfold QF f_X12_counsels
      refine r_start hR hA (fun g1 J0 hR1 _ => ?_)
      refine w_vs hR1.1.1.s0 (w_eq (e_ip hR1.1 hA) ?_)
      rw [if_neg (bI_ne hv)]
      refine w_rdR hR1.1.1.s0 hR1.1.1.r0 (w_rdR hR1.1.1.s0 hR1.1.1.r22 ?_)
      refine r_say hN hR1.1 hA (Or.inl rfl) hp (fun g2 J2 T2 R2 => ?_)
      dsimp only
      generalize sayA A (aB A p) (ame A p) = l at *
      obtain ⟨W, hWd⟩ : ∃ W : Nat → Int32, W = fun i => nI (aW A (l.getD i 0)) := ⟨_, rfl⟩
      rw [← hWd]
      have hWe : ∀ i, nI (aW A (l.getD i 0)) = W i := fun i => by rw [hWd]
      obtain ⟨n, hn⟩ : ∃ n, n = l.length := ⟨_, rfl⟩
      rw [← hn] at T2 hl8 hlt ⊢
      have K0 : zM m (ScM m) g' g2 := J0.trans (J2.mono (fun a j z => by omega))
      refine zW_forI (fun i g3 => zJ (fun a _ => a = m + 26) g2 g3 ∧ ∀ j, j < i → zgi g3 (m + 26) (9 * j + j) = nI 0) (n + 1) (fun i g3 hi hI => ?_) (fun g3 hI => ?_) (by omega) (Nat.zero_le _) ⟨zJ.rfl, fun j hj => absurd hj (Nat.not_lt_zero j)⟩
      · obtain ⟨J, e⟩ := hI
        have R3 := R2.keep hA (J.toM (m := m)) (fun a j z => by omega)
        show zW (f_X12_counsels_34 N m (nI n) (-1) (nI i) g3) _
        unfold f_X12_counsels_34
        rw [if_neg (nI_nlt (by omega) (by omega))]
        refine w_rdR R3.1.s0 R3.1.r38 ?_
        rw [c_9, nI_mul, nI_add, w20_81 R3.1.s26 (by omega), Option.bind_some, zW_some, zI_inl, c_1, nI_add]
        refine ⟨rfl, J.setI' rfl, fun j hj => ?_⟩
        rw [gi_sI]
        by_cases h : j = i
        · subst h; rw [if_pos ⟨rfl, rfl⟩]; rfl
        · rw [if_neg (by omega)]; exact e j (by omega)
      · obtain ⟨J, e⟩ := hI
        show zW (f_X12_counsels_34 N m (nI n) (-1) (nI (n + 1)) g3) _
        unfold f_X12_counsels_34
        rw [if_pos (nI_lt (by omega) (by omega)), zW_map]
        refine zW_for (fun i (s : Int32 × Int32 × ZS) => 1 ≤ i ∧ s.1 = (if i = 1 then -1 else chl W (n + 1 - i) (i - 2)) ∧ s.2.1 = nI i ∧ zJ (fun a _ => a = m + 26) g2 s.2.2 ∧ ∀ a b, a + b ≤ n → b < i → zgi s.2.2 (m + 26) (9 * a + (a + b)) = cvl W a b) (n + 1) (fun i s hi hs => ?_) (fun s hs => ?_) (by omega) (show 1 ≤ n + 1 by omega) ⟨Nat.le_refl _, rfl, rfl, J, fun a b h1 h2 => by
          have : b = 0 := by omega
          subst this
          exact e a (by omega)⟩
        · obtain ⟨y1, y2, g4⟩ := s
          obtain ⟨h0, h1, h2, h3, h4⟩ := hs
          dsimp only at h1 h2 h3 h4
          subst h2
          show zW (f_X12_counsels_63 N m (nI n) y1 (nI i) g4) _
          unfold f_X12_counsels_63
          rw [if_neg (nI_nlt (by omega) (by omega))]
          refine zW_for (fun q (s : Int32 × Int32 × ZS) => s.1 = (if q = 0 then y1 else chl W (q - 1) (i - 1)) ∧ s.2.1 = nI q ∧ zJ (fun a _ => a = m + 26) g2 s.2.2 ∧ ∀ a b, a + b ≤ n → (b < i ∨ b = i ∧ a < q) → zgi s.2.2 (m + 26) (9 * a + (a + b)) = cvl W a b) (n + 1 - i) (fun q s hq hs => ?_) (fun s hs => ?_) (by omega) (Nat.zero_le _) ⟨rfl, rfl, h3, fun a b h5 h6 => h4 a b h5 (by omega)⟩
          · obtain ⟨z1, z2, g5⟩ := s
            obtain ⟨p1, p2, p3, p4⟩ := hs
            dsimp only at p1 p2 p3 p4
            subst p2
            have R5 := R2.keep hA (p3.toM (m := m)) (fun a j z => by omega)
            have e1 : zgi g5 (m + 12) q = nI (l.getD q 0) := by rw [p3.gi (by omega)]; exact T2 q (by omega)
            have e2 : zgi g5 (m + 12) (q + i - 1) = nI (l.getD (q + i - 1) 0) := by rw [p3.gi (by omega)]; exact T2 _ (by omega)
            have e3 := hlt q (by omega)
            have e4 := hlt (q + i - 1) (by omega)
            have v1 : zgi g5 (m + 26) (9 * (q + 1) + (q + i)) = cvl W (q + 1) (i - 1) := by
              rw [show q + i = q + 1 + (i - 1) by omega]
              exact p4 (q + 1) (i - 1) (by omega) (by omega)
            have v2 : zgi g5 (m + 26) (9 * q + (q + i) - 1) = cvl W q (i - 1) := by
              rw [show 9 * q + (q + i) - 1 = 9 * q + (q + (i - 1)) by omega]
              exact p4 q (i - 1) (by omega) (by omega)
            show zW (f_X12_counsels_72 N m (nI n) z1 (nI i) (nI q) g5) _
            unfold f_X12_counsels_72 f_X12_counsels_182
            rw [nI_add, if_neg (nI_nlt (by omega) (by omega))]
            refine w_rdR R5.1.s0 R5.1.r3 (w_rdR R5.1.s0 R5.1.r22 ?_)
            rw [a20_8 R5.1.s12 (by omega), e1, Option.bind_some, a20_8 R5.1.s3 e3, R5.2.2.2.2.2.1 _ e3, Option.bind_some]
            refine w_rdR R5.1.s0 R5.1.r38 ?_
            rw [c_1, c_9, nI_add, nI_mul, nI_add, a20_81 R5.1.s26 (by omega), v1, Option.bind_some]
            refine w_rdR R5.1.s0 R5.1.r3 (w_rdR R5.1.s0 R5.1.r22 ?_)
            rw [nI_sub (by omega), a20_8 R5.1.s12 (by omega), e2, Option.bind_some, a20_8 R5.1.s3 e4, R5.2.2.2.2.2.1 _ e4, Option.bind_some]
            refine w_rdR R5.1.s0 R5.1.r38 ?_
            rw [nI_mul, nI_add, nI_sub (by omega), a20_81 R5.1.s26 (by omega), v2, Option.bind_some]
            refine w_rdR R5.1.s0 R5.1.r38 (w_eq e_cmx ?_)
            rw [w20_81 R5.1.s26 (by omega), Option.bind_some, hWe, hWe]
            have hcv : cvl W q i = cmx (W q - cvl W (q + 1) (i - 1)) (W (q + i - 1) - cvl W q (i - 1)) := by
              obtain ⟨s, rfl⟩ : ∃ s, i = s + 1 := ⟨i - 1, by omega⟩
              rw [cvl_s, Nat.add_sub_cancel, show q + (s + 1) - 1 = q + s by omega]
            have hch : chl W q (i - 1) = if W (q + i - 1) - cvl W q (i - 1) ≤ W q - cvl W (q + 1) (i - 1) then 0 else 1 := by
              unfold chl
              rw [show q + (i - 1) = q + i - 1 by omega]
            rw [← hcv]
            have put : ∀ a b, a + b ≤ n → (b < i ∨ b = i ∧ a < q + 1) → zgi (zsetI g5 (m + 26) (9 * q + (q + i)) (cvl W q i)) (m + 26) (9 * a + (a + b)) = cvl W a b := fun a b h5 h6 => by
              rw [gi_sI]
              by_cases h : a = q ∧ b = i
              · obtain ⟨rfl, rfl⟩ := h; rw [if_pos ⟨rfl, rfl⟩]
              · rw [if_neg (by omega)]; exact p4 a b h5 (by omega)
            by_cases e : W (q + i - 1) - cvl W q (i - 1) ≤ W q - cvl W (q + 1) (i - 1)
            · rw [if_pos e, zW_some, zI_inl]
              exact ⟨by rw [if_neg (by omega), Nat.add_sub_cancel, hch, if_pos e], rfl, p3.setI' rfl, put⟩
            · rw [if_neg e, zW_some, zI_inl]
              exact ⟨by rw [if_neg (by omega), Nat.add_sub_cancel, hch, if_neg e]; rfl, rfl, p3.setI' rfl, put⟩
          · obtain ⟨z1, z2, g5⟩ := s
            obtain ⟨p1, p2, p3, p4⟩ := hs
            dsimp only at p1 p2 p3 p4
            subst p2
            rw [if_neg (by omega)] at p1
            show zW (f_X12_counsels_72 N m (nI n) z1 (nI i) (nI (n + 1 - i)) g5) _
            unfold f_X12_counsels_72
            rw [nI_add, if_pos (nI_lt (by omega) (by omega)), Option.map_some, zW_some, zI_inr, zI_inl, c_1, nI_add]
            exact ⟨by omega, by rw [if_neg (by omega), p1, show n + 1 - i - 1 = n + 1 - (i + 1) by omega, show i + 1 - 2 = i - 1 by omega], rfl, p3, fun a b h5 h6 => p4 a b h5 (by omega)⟩
        · obtain ⟨y1, y2, g4⟩ := s
          obtain ⟨h0, h1, h2, h3, h4⟩ := hs
          dsimp only at h1 h2 h3 h4
          subst h2
          have R4 := R2.keep hA (h3.toM (m := m)) (fun a j z => by omega)
          show zW (f_X12_counsels_63 N m (nI n) y1 (nI (n + 1)) g4) _
          unfold f_X12_counsels_63
          rw [if_pos (nI_lt (by omega) (by omega)), zW_map]
          have hy : y1 = chlN W n := by
            rw [h1]
            unfold chlN
            by_cases e0 : n = 0
            · rw [if_pos e0, if_pos (by omega)]
            · rw [if_neg e0, if_neg (by omega), show n + 1 - (n + 1) = 0 by omega, show n + 1 - 2 = n - 1 by omega]
          rw [hy]
          refine r_only R4 hA (fun g5 J5 W5 R5 => ?_)
          have e4 : zgi g5 (m + 26) n = cvl W 0 n := by
            rw [J5.gi (by omega)]
            have := h4 0 n (by omega) (by omega)
            rwa [show 9 * 0 + (0 + n) = n by omega] at this
          refine w_rdR R5.1.s0 R5.1.r38 ?_
          rw [a20_81 R5.1.s26 (by omega), e4, Option.bind_some, zW_some, zI_inr]
          exact ⟨rfl, (K0.trans ((h3.toM (m := m)).mono (fun a j z => by omega))).trans ((J5.toM (m := m)).mono (fun a j z => by omega)), W5⟩)
end CO
