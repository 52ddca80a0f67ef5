/-! ===== keep, again ===== -/
theorem e_in01 {v : Int32} : f_X12_in v (0 : Int32) (1 : Int32) = some (bI (rb v 0 (1 + 1))) := e_in (lo := 0) (hi := 1) (by omega) (by omega)
section KE
variable {N x m c : Nat} {g g1 g2 g3 g' : ZS} {A : ZA}
theorem c_kept {i : Nat} (hC : CJ x g A) (hi : i < 2) : zaald 26 g (x + 473) (nI i) = some (x + 517 + 32 * i) ∧ SL (zh g) (x + 517 + 32 * i) := by
  have h : i = 0 ∨ i = 1 := by omega
  rw [p_aald (n := 2) hC.1.s473 hi (by decide)]
  rcases h with rfl | rfl
  · exact ⟨hC.1.r473_0, hC.1.SL517⟩
  · exact ⟨hC.1.r473_1, hC.1.SL549⟩
theorem k_keep (hN : 10000 ≤ N) (v : Int32) : Call (fun x g => f_X11_keep N x v g) (fun m g => f_X12_keep N m v g) := call_s (fun x m c g A hC hA hc => by
  have n6 := hA.1.1
  cases hv : rb v 0 (1 + 1) with
  | false =>
    refine ⟨0, A, hA.mono (Nat.le_succ c), ?_, fun g' hR => ?_⟩
    · unfold Cc f_X11_keep f_X11_keep_9
      have fin : zW (some ((0 : Int32), g)) (fun o => o.1 = 0 ∧ zX x (x + 581) g o.2 ∧ CI x o.2 A) := zW_some.mpr ⟨rfl, zX.rfl, hC⟩
      by_cases h : v < 0
      · rw [if_pos h]; exact fin
      · rw [if_neg h]
        rcases rb_f hv (by omega) (by omega) with h' | h'
        · exact absurd h' h
        · rw [c_2, if_neg (Int32.not_lt.mpr h')]; exact fin
    · unfold Rc f_X12_keep
      refine r_start hR hA (fun g1 J0 hR1 _ => ?_)
      rw [e_in01, Option.bind_some, if_pos (bI_eq hv), zW_some]
      exact ⟨rfl, J0.toX (fun a j z => scm_in z) (by omega), hR1⟩
  | true =>
    obtain ⟨i, -, hi, rfl⟩ := rb_t hv (by omega)
    obtain ⟨E, hE⟩ : ∃ E : Nat → Option (ZU × Nat × Nat), E = fun j => if j = i then some ((aB A, ad A), an A, aC A) else aE A j := ⟨_, rfl⟩
    have Ei : E i = some ((aB A, ad A), an A, aC A) := by rw [hE]; exact if_pos rfl
    have Ej : ∀ j, j ≠ i → E j = aE A j := fun j hj => by rw [hE]; exact if_neg hj
    refine ⟨1, sE A E, ?_, ?_, fun g' hR => ?_⟩
    · obtain ⟨a1, a2, a3, a4, a5, a6, a7, ⟨a8, a9⟩, a10⟩ := hA.mono (Nat.le_succ c)
      refine ⟨a1, a2, a3, a4, a5, a6, a7, ⟨a8, fun j hj u k q e => ?_⟩, a10⟩
      have e : E j = some (u, k, q) := e
      by_cases h : j = i
      · rw [h, Ei] at e
        injection e with e; injection e with e1 e2; injection e2 with e2 e3
        subst e1; subst e2; subst e3
        exact ⟨Nat.le_refl _, Nat.le_refl _, ⟨fun _ => rfl, fun _ => rfl⟩, a1.2.2.1, a1.2.2.2⟩
      · rw [Ej j h] at e; exact a9 j hj u k q e
    · unfold Cc f_X11_keep
      obtain ⟨k1, k2⟩ := c_kept hC.1 hi
      have hL := hC.1.1
      rw [c_0, if_neg (show ¬ nI i < nI 0 from nI_pos (by omega)), c_2, if_pos (nI_lt hi (by omega))]
      refine w_rdR hL.s0 hL.r0_9 (w_eq k1 (w_rdR hL.s0 hL.r0_6 (w_vs k2.f.1 ?_)))
      refine (s_copyS hN k2 hL.SL23 (by omega) n6 hC.1.2.2.2.2.2.1.1 hA.1.2.2.1).bind (fun g2 h2 => ?_)
      obtain ⟨J2, D2⟩ := h2
      refine w_rdR (by rw [J2.sh]; exact hL.s0) (by rw [J2.gr]; exact hL.r0_10) ?_
      rw [c_1, w22_2 (by rw [J2.sh]; exact hL.s474) hi, nar22_1, Option.bind_some, zW_some]
      have J3 : zJ (fun a j => a = x + 474 ∧ j = i) g2 (zsetI g2 (x + 474) i (nI 1)) := zJ.setI ⟨rfl, rfl⟩
      have J : zJ (fun a j => a = x + 474 ∧ j = i ∨ (x + 517 + 32 * i ≤ a ∧ a < x + 517 + 32 * i + 32)) g (zsetI g2 (x + 474) i (nI 1)) := (J2.mono (fun a j z => Or.inr z)).trans (J3.mono (fun a j z => Or.inl z))
      refine ⟨rfl, J.toX (fun a j z => by omega), hC.1.setE hA (J.mono (fun a j z => by omega)) (fun j hj => ?_), hC.2.stay J (fun a j z => by omega)⟩
      by_cases h : j = i
      · subst h
        rw [Ei]
        refine ⟨by rw [gi_sI, if_pos ⟨rfl, rfl⟩]; rfl, fun u k q e => ?_⟩
        injection e with e; injection e with e1 e2; injection e2 with e2 e3
        subst e1; subst e2
        exact D2.keep n6 J3 (fun a j z => by have := z.1; have := z.2; omega)
      · obtain ⟨y1, y2⟩ := hC.1.2.2.2.2.2.2.2.1 j hj
        rw [Ej j h]
        refine ⟨by rw [J.gi (by omega)]; exact y1, fun u k q e => (y2 u k q e).keep (by have := (hA.2.2.2.2.2.2.2.1.2 j hj u k q e).2.1; omega) J (fun a j z => by have := z.1; have := z.2; omega)⟩
    · unfold Rc f_X12_keep
      refine r_start hR hA (fun g1 J0 hR1 _ => ?_)
      have hL := hR1.1.1
      have hE1 := hR1.1.2.2.2.2.2.2.2.2.1
      rw [e_in01, Option.bind_some, if_neg (bI_ne hv)]
      refine w_rdR hL.s0 hL.r46 ?_
      rw [c_1, w22_2 hL.s31 hi, nar22_1, Option.bind_some]
      refine w_rdR (by exact hL.s0) (by exact hL.r47) (w_rdI (by exact hL.s0) (show zgi (zsetI g1 (m + 31) i (nI 1)) m 44 = nI (aC A) by rw [gi_sI, if_neg (by omega)]; exact hE1.1) ?_)
      rw [p_iast (n := 2) (by exact hL.s32) hi (by decide), Option.bind_some]
      refine w_rdR (by exact hL.s0) (by exact hL.r0) (w_rdR (by exact hL.s0) (by exact hL.r45) ?_)
      obtain ⟨g2, hg2⟩ : ∃ g2, g2 = zsetI (zsetI g1 (m + 31) i (nI 1)) (m + 32) i (nI (aC A)) := ⟨_, rfl⟩
      have J2 : zJ (fun a j => (a = m + 31 ∨ a = m + 32) ∧ j = i) g1 g2 := by rw [hg2]; exact (zJ.setI (by omega)).setI' (by omega)
      have f31 : zgi g2 (m + 31) i = nI 1 := by rw [hg2, gi_sI, if_neg (by omega), gi_sI, if_pos ⟨rfl, rfl⟩]
      have f32 : zgi g2 (m + 32) i = nI (aC A) := by rw [hg2, gi_sI, if_pos ⟨rfl, rfl⟩]
      rw [← hg2, c_217, nI_mul]
      refine (s_lay hN (lb := 434) (by rw [J2.sh]; exact hL.s1) (by rw [J2.sh]; exact hL.s30) (by omega) (by omega) (by omega)).bind (fun g3 h3 => ?_)
      obtain ⟨J3, e3⟩ := h3
      rw [zW_some]
      have D2 : RN g2 (m + 1) (an A) (ad A) (aB A) := hR1.1.2.2.2.2.2.2.1.2.2.keep n6 J2 (fun j _ => by omega)
      have J : zJ (fun a j => (a = m + 31 ∨ a = m + 32) ∧ j = i ∨ a = m + 30 ∧ 217 * i ≤ j ∧ j < 217 * i + 217) g1 g3 := (J2.mono (fun a j z => Or.inl z)).trans (J3.mono (fun a j z => Or.inr z))
      refine ⟨rfl, (J0.toX (fun a j z => scm_in z) (by omega)).trans (J.toX (fun a j z => by omega)), hR1.1.setE hA ((J.toM (m := m)).mono (fun a j z => by omega)) ⟨by rw [J.gi (by omega)]; exact hE1.1, fun j hj => ?_⟩, hR1.2.keepM (J.toM (m := m)) (by omega) (fun j => by omega)⟩
      by_cases h : j = i
      · subst h
        rw [Ei]
        refine ⟨by rw [J3.gi (by omega), f31]; rfl, fun u k q e => ?_⟩
        injection e with e; injection e with e1 e2; injection e2 with e2 e3'
        subst e1; subst e2; subst e3'
        exact ⟨by rw [J3.gi (by omega)]; exact f32, D2.to n6 e3⟩
      · obtain ⟨y1, y2⟩ := hE1.2 j hj
        rw [Ej j h]
        refine ⟨by rw [J.gi (by omega)]; exact y1, fun u k q e => ⟨by rw [J.gi (by omega)]; exact (y2 u k q e).1, (y2 u k q e).2.keep (by have := (hA.2.2.2.2.2.2.2.1.2 j hj u k q e).2.1; omega) J (fun j' h1 h2 z => by omega)⟩⟩)
theorem k_again (hN : 10000 ≤ N) (v : Int32) : Call (fun x g => f_X11_again N x v g) (fun m g => f_X12_again N m v g) := call_s (fun x m c g A hC hA hc => by
  have n6 := hA.1.1
  have finC : zW (some ((0 : Int32), g)) (fun o => o.1 = 0 ∧ zX x (x + 581) g o.2 ∧ CI x o.2 A) := zW_some.mpr ⟨rfl, zX.rfl, hC⟩
  cases hv : rb v 0 (1 + 1) with
  | false =>
    refine ⟨0, A, hA.mono (Nat.le_succ c), ?_, fun g' hR => ?_⟩
    · unfold Cc f_X11_again f_X11_again_37
      by_cases h : v < 0
      · rw [if_pos h]; exact finC
      · rw [if_neg h]
        rcases rb_f hv (by omega) (by omega) with h' | h'
        · exact absurd h' h
        · rw [c_2, if_pos h']; exact finC
    · unfold Rc f_X12_again f_X12_again_36
      refine r_start hR hA (fun g1 J0 hR1 _ => ?_)
      rw [e_in01, Option.bind_some, if_pos (bI_eq hv), zW_some]
      exact ⟨rfl, J0.toX (fun a j z => scm_in z) (by omega), hR1⟩
  | true =>
    obtain ⟨i, -, hi, rfl⟩ := rb_t hv (by omega)
    have hE := hA.2.2.2.2.2.2.2.1
    cases hEi : aE A i with
    | none =>
      refine ⟨0, A, hA.mono (Nat.le_succ c), ?_, fun g' hR => ?_⟩
      · have y1 := (hC.1.2.2.2.2.2.2.2.1 i hi).1
        rw [hEi] at y1
        have hL := hC.1.1
        unfold Cc f_X11_again f_X11_again_37
        rw [c_0, if_neg (show ¬ nI i < nI 0 from nI_pos (by omega)), c_2, if_neg (nI_ge hi (by omega))]
        refine w_rdR hL.s0 hL.r0_10 ?_
        rw [a22_2 hL.s474 hi, Option.bind_some, y1, if_pos (show bI (none : Option (ZU × Nat × Nat)).isSome = nI 0 from rfl)]
        exact finC
      · unfold Rc f_X12_again f_X12_again_36
        refine r_start hR hA (fun g1 J0 hR1 _ => ?_)
        have hL := hR1.1.1
        have y1 := (hR1.1.2.2.2.2.2.2.2.2.1.2 i hi).1
        rw [hEi] at y1
        rw [e_in01, Option.bind_some, if_neg (bI_ne hv)]
        refine w_rdR hL.s0 hL.r46 ?_
        rw [a22_2 hL.s31 hi, Option.bind_some, y1, if_pos (show bI (none : Option (ZU × Nat × Nat)).isSome = 0 from rfl), zW_some]
        exact ⟨rfl, J0.toX (fun a j z => scm_in z) (by omega), hR1⟩
    | some t =>
      obtain ⟨⟨B, d⟩, k, q⟩ := t
      obtain ⟨f1, f2, f3, f4, f5⟩ := hE.2 i hi _ _ _ hEi
      have f0 := hE.1
      by_cases hk : k = an A
      · have hqc : q = aC A := f3.mpr hk
        subst hk
        have hAU : AI (sU A []) c := hA.setU ⟨by simp, fun i hi => absurd hi (by simp)⟩
        refine ⟨1, sU (sS A B d) [], (AI.setSd (A := sU A []) hAU f4 f5).mono (Nat.le_succ c), ?_, fun g' hR => ?_⟩
        · obtain ⟨y1, y2⟩ := hC.1.2.2.2.2.2.2.2.1 i hi
          have S1 := y2 _ _ _ hEi
          rw [hEi] at y1
          have hL := hC.1.1
          obtain ⟨k1, k2⟩ := c_kept hC.1 hi
          unfold Cc f_X11_again
          rw [c_0, if_neg (show ¬ nI i < nI 0 from nI_pos (by omega)), c_2, if_neg (nI_ge hi (by omega))]
          refine w_rdR hL.s0 hL.r0_10 ?_
          rw [a22_2 hL.s474 hi, Option.bind_some, y1, if_neg (show ¬ bI (some ((B, d), an A, q)).isSome = nI 0 from bI_ne rfl)]
          refine w_rdR hL.s0 hL.r0_9 (w_eq k1 (w_rdI k2.f.1 S1.1 (w_rdR hL.s0 hL.r0_6 (w_rdI hL.SL23.f.1 hC.1.2.2.2.2.2.1.1.1 ?_))))
          rw [if_pos rfl]
          refine w_rdR hL.s0 hL.r0_6 (w_rdR hL.s0 hL.r0_9 (w_eq k1 (w_vs hL.SL23.f.1 ?_)))
          refine (s_copyN hN hL.SL23 k2 (by omega) n6 S1 f4).bind (fun g2 h2 => ?_)
          obtain ⟨J2, D2⟩ := h2
          have J2' : zJ (fun a _ => x + 23 ≤ a ∧ a < x + 55) g g2 := J2.mono (fun a j z => by have := z.1; have := z.2; omega)
          have C2 : CJ x g2 (sS A B d) := hC.1.setS hA (J2'.mono (fun a j z => Or.inr z)) ⟨D2, fun q h1 h2 => (hC.1.2.2.2.2.2.1.2 q h1 h2).keepJ J2 (fun a j z y => by have h1 : an A ≤ q := h1; have := z.1; have := z.2.1; have := y.1; have := y.2; omega)⟩
          have A2 : AI (sS A B d) c := hA.setSd f4 f5
          refine w_rdR C2.1.s0 C2.1.r0_8 ?_
          rw [p_wrI C2.1.s87, Option.bind_some, zW_some]
          have J3 : zJ (fun a j => a = x + 87 ∧ j = 1) g2 (zsetI g2 (x + 87) 1 (nI 0)) := zJ.setI ⟨rfl, rfl⟩
          obtain ⟨h11, σ, hσ, hin, hCS⟩ := C2.2.2.2.2.2.2.1
          exact ⟨rfl, (J2'.toX (fun a j z => by omega)).trans (J3.toX (fun a j z => by omega)), C2.setU A2 (J3.mono (fun a j z => by omega)) ⟨by rw [gi_sI, if_pos ⟨rfl, rfl⟩]; rfl, σ, fun i hi => ⟨(hσ i hi).1, by rw [J3.gr]; exact (hσ i hi).2⟩, hin, fun i hi => absurd hi (by simp)⟩, (hC.2.stay J2' (fun a j z => by omega)).stay J3 (fun a j z => by omega)⟩
        · unfold Rc f_X12_again
          refine r_start hR hA (fun g1 J0 hR1 _ => ?_)
          have hL := hR1.1.1
          obtain ⟨yC, yE⟩ := hR1.1.2.2.2.2.2.2.2.2.1
          obtain ⟨y1, y2⟩ := yE i hi
          obtain ⟨y3, S1⟩ := y2 _ _ _ hEi
          rw [hEi] at y1
          rw [e_in01, Option.bind_some, if_neg (bI_ne hv)]
          refine w_rdR hL.s0 hL.r46 ?_
          rw [a22_2 hL.s31 hi, Option.bind_some, y1, if_neg (show ¬ bI (some ((B, d), an A, q)).isSome = 0 from bI_ne rfl)]
          refine w_rdR hL.s0 hL.r47 ?_
          rw [p_ald (n := 2) hL.s32 hi (by decide), Option.bind_some, y3]
          refine w_rdI hL.s0 yC ?_
          rw [if_pos (by rw [hqc]), c_0]
          refine zW_forI (fun i' g' => zJ (fun a _ => a = m + 1) g1 g' ∧ ∀ j, j < i' → zgi g' (m + 1) j = zgi g1 (m + 30) (217 * i + j)) 217 (fun i' g4 hi' hI => ?_) (fun g4 hI => ?_) (by omega) (Nat.zero_le _) ⟨zJ.rfl, fun j hj => by omega⟩
          · obtain ⟨J4, e4⟩ := hI
            show zW (f_X12_again_40 N m (nI i) (nI i') g4) _
            unfold f_X12_again_40
            rw [c_217, if_neg (nI_ge hi' (by omega))]
            refine w_rdR (by rw [J4.sh]; exact hL.s0) (by rw [J4.gr]; exact hL.r0) (w_rdR (by rw [J4.sh]; exact hL.s0) (by rw [J4.gr]; exact hL.r45) ?_)
            rw [nI_mul, nI_add, p_ald (n := 434) (by rw [J4.sh]; exact hL.s30) (by omega) (by decide), Option.bind_some, w20_217 (by rw [J4.sh]; exact hL.s1) hi', Option.bind_some, zW_some, zI_inl, c_1, nI_add]
            refine ⟨rfl, J4.setI' rfl, fun j hj => ?_⟩
            by_cases e : j = i'
            · rw [e, gi_sI, if_pos ⟨rfl, rfl⟩, J4.gi (by omega)]
            · rw [gi_sI, if_neg (by omega)]; exact e4 j (by omega)
          · obtain ⟨J4, e4⟩ := hI
            show zW (f_X12_again_40 N m (nI i) (nI 217) g4) _
            unfold f_X12_again_40
            rw [c_217, if_pos (nI_le (Nat.le_refl _) (by omega)), zW_map, c_0, p_wrI (by rw [J4.sh]; exact hL.s0), Option.bind_some, zW_some]
            have R4 : RJ m g4 (sS A B d) := hR1.1.setS hA ((J4.toM (m := m)).mono (fun a j z => by omega)) (S1.from n6 e4)
            have A4 : AI (sS A B d) c := hA.setSd f4 f5
            have J5 : zJ (fun a j => a = m ∧ j = 26) g4 (zsetI g4 m 26 (nI 0)) := zJ.setI ⟨rfl, rfl⟩
            exact ⟨rfl, ((J0.toX (fun a j z => scm_in z) (by omega)).trans (J4.toX (fun a j z => by omega))).trans (J5.toX (fun a j z => by omega)), R4.setU A4 ((J5.toM (m := m)).mono (fun a j z => by omega)) ⟨by rw [gi_sI, if_pos ⟨rfl, rfl⟩]; rfl, by simp, fun i hi => absurd hi (by simp)⟩, (hR1.2.keepM (J4.toM (m := m)) (by omega) (fun j => by omega)).keepM (J5.toM (m := m)) (by omega) (fun j => by omega)⟩
      · have hqc : q ≠ aC A := fun h => hk (f3.mp h)
        refine ⟨0, A, hA.mono (Nat.le_succ c), ?_, fun g' hR => ?_⟩
        · obtain ⟨y1, y2⟩ := hC.1.2.2.2.2.2.2.2.1 i hi
          have S1 := y2 _ _ _ hEi
          rw [hEi] at y1
          have hL := hC.1.1
          obtain ⟨k1, k2⟩ := c_kept hC.1 hi
          unfold Cc f_X11_again f_X11_again_37
          rw [c_0, if_neg (show ¬ nI i < nI 0 from nI_pos (by omega)), c_2, if_neg (nI_ge hi (by omega))]
          refine w_rdR hL.s0 hL.r0_10 ?_
          rw [a22_2 hL.s474 hi, Option.bind_some, y1, if_neg (show ¬ bI (some ((B, d), k, q)).isSome = nI 0 from bI_ne rfl)]
          refine w_rdR hL.s0 hL.r0_9 (w_eq k1 (w_rdI k2.f.1 S1.1 (w_rdR hL.s0 hL.r0_6 (w_rdI hL.SL23.f.1 hC.1.2.2.2.2.2.1.1.1 ?_))))
          rw [if_neg (fun h => hk ((nI_eq (by omega) (by omega)).mp h))]
          exact finC
        · unfold Rc f_X12_again f_X12_again_36
          refine r_start hR hA (fun g1 J0 hR1 _ => ?_)
          have hL := hR1.1.1
          obtain ⟨yC, yE⟩ := hR1.1.2.2.2.2.2.2.2.2.1
          obtain ⟨y1, y2⟩ := yE i hi
          obtain ⟨y3, S1⟩ := y2 _ _ _ hEi
          rw [hEi] at y1
          rw [e_in01, Option.bind_some, if_neg (bI_ne hv)]
          refine w_rdR hL.s0 hL.r46 ?_
          rw [a22_2 hL.s31 hi, Option.bind_some, y1, if_neg (show ¬ bI (some ((B, d), k, q)).isSome = 0 from bI_ne rfl)]
          refine w_rdR hL.s0 hL.r47 ?_
          rw [p_ald (n := 2) hL.s32 hi (by decide), Option.bind_some, y3]
          refine w_rdI hL.s0 yC ?_
          rw [if_neg (fun h => hqc ((nI_eq (by omega) (by omega)).mp h)), zW_some]
          exact ⟨rfl, J0.toX (fun a j z => scm_in z) (by omega), hR1⟩)
end KE
