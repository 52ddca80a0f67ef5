/-! ===== clash: the reference's search, the call ===== -/
/-- a way back that meets no word twice, nor a used one -/
def Sp2 (M : Nat → Nat) (q used v : Nat) (s : List Nat) : Prop := Pl M q v s ∧ s.Nodup ∧ ∀ u, u ∈ s → ¬ used / 2 ^ u % 2 = 1
section GR
variable {N x m c : Nat} {g g' : ZS} {A : ZA} {M : Nat → Nat}
theorem Sp2.cons_iff {q used v u : Nat} {r : List Nat} : Sp2 M q used v (u :: r) ↔ (M v / 2 ^ u % 2 = 1 ∧ q < u ∧ u < 8 ∧ ¬ used / 2 ^ u % 2 = 1) ∧ Sp2 M q (used ||| 2 ^ u) u r := by
  constructor
  · rintro ⟨⟨h1, h2, h3, h4⟩, h5, h6⟩
    obtain ⟨h7, h8⟩ := List.nodup_cons.mp h5
    refine ⟨⟨h1, h2, h3, h6 u List.mem_cons_self⟩, h4, h8, fun a ha hb => ?_⟩
    rcases or_bit.mp hb with hb | hb
    · exact h6 a (List.mem_cons_of_mem _ ha) hb
    · subst hb; exact h7 ha
  · rintro ⟨⟨h1, h2, h3, h4⟩, h5, h6, h7⟩
    refine ⟨⟨h1, h2, h3, h5⟩, List.nodup_cons.mpr ⟨fun hu => h7 u hu (or_bit.mpr (Or.inr rfl)), h6⟩, fun a ha => ?_⟩
    rcases List.mem_cons.mp ha with e | ha
    · subst e; exact h4
    · exact fun hb => h7 a ha (or_bit.mpr (Or.inl hb))
/-- what the search comes to -/
def GO (M : Nat → Nat) (m q used v k n : Nat) (g : ZS) (o : Int32 × ZS) : Prop := zJ (fun a j => a = m + 21 ∧ k ≤ j) g o.2 ∧ ((¬ o.1 = 0 ∧ ∃ s, s.length + k = n ∧ Sp2 M q used v s ∧ (∀ s', Sp2 M q used v s' → s'.length + k = n → lxLe s s') ∧ ∀ j, j < s.length → zgi o.2 (m + 21) (k + j) = nI (s.getD j 0)) ∨ (o.1 = 0 ∧ ∀ s, s.length + k = n → ¬ Sp2 M q used v s))
theorem r_goRing {q n : Nat} (hN : 10000 ≤ N) (hA : AI A c) (hM : ∀ w, w < 8 → M w < 256) (hq : q < 8) (hn8 : n ≤ 8) : ∀ (r D k used v : Nat) (g : ZS), k + r = n → r < D → 1 ≤ k → used < 256 → v < 8 → RJ m g A → (∀ w, w < 8 → zgi g (m + 25) w = nI (M w)) → zgi g (m + 21) 0 = nI q → zgi g (m + 21) (k - 1) = nI v → zW (f_grp_X12_goRing N D m (nI k) (nI n) (nI used) g) (GO M m q used v k n g)
  | 0, D, k, used, v, g, hk, hD, h1, hu, hv, hR, hg, hq0, hv0 => by
    obtain ⟨D', rfl⟩ : ∃ d, D = d + 1 := ⟨D - 1, by omega⟩
    have hkn : k = n := by omega
    show zW (f_X12_goRing (f_grp_X12_goRing N D') N m (nI k) (nI n) (nI used) g) _
    unfold f_X12_goRing
    rw [if_pos (by rw [hkn])]
    refine w_rdR hR.1.s0 hR.1.r37 (w_rdR hR.1.s0 hR.1.r32 ?_)
    rw [c_1, nI_sub h1, a20_8 hR.1.s21 (by omega), hv0, Option.bind_some, a20_8 hR.1.s25 hv, hg v hv, Option.bind_some]
    refine w_rdR hR.1.s0 hR.1.r32 ?_
    have hMv := hM v hv
    rw [c_0, a20_8 hR.1.s21 (by omega), hq0, Option.bind_some, e_has (by omega) (by omega), Option.bind_some, if_pos bI_nar, zW_some]
    refine ⟨zJ.rfl, ?_⟩
    by_cases e : M v / 2 ^ q % 2 = 1
    · refine Or.inl ⟨bI_ne (decide_eq_true e), [], by show 0 + k = n; omega, ⟨e, List.nodup_nil, fun u hu => absurd hu List.not_mem_nil⟩, fun s' _ _ => trivial, fun j hj => absurd hj (Nat.not_lt_zero j)⟩
    · refine Or.inr ⟨bI_eq (decide_eq_false e), fun s hs hsp => ?_⟩
      have hs0 : s = [] := List.length_eq_zero_iff.mp (by omega)
      subst hs0
      exact e hsp.1
  | r + 1, D, k, used, v, g, hk, hD, h1, hu, hv, hR, hg, hq0, hv0 => by
    obtain ⟨D', rfl⟩ : ∃ d, D = d + 1 := ⟨D - 1, by omega⟩
    have hMv := hM v hv
    show zW (f_X12_goRing (f_grp_X12_goRing N D') N m (nI k) (nI n) (nI used) g) _
    unfold f_X12_goRing
    rw [if_neg (fun h => by have := (nI_eq (by omega) (by omega)).mp h; omega)]
    refine w_rdR hR.1.s0 hR.1.r32 ?_
    rw [c_0, a20_8 hR.1.s21 (by omega), hq0, Option.bind_some, c_1, nI_add]
    refine zW_forI (fun w g' => q < w ∧ zJ (fun a j => a = m + 21 ∧ k ≤ j) g g' ∧ ∀ u p, u < w → p.length + 1 + k = n → ¬ Sp2 M q used v (u :: p)) 8 (fun w g2 hw hI => ?_) (fun g2 hI => ?_) (by omega) (show q + 1 ≤ 8 by omega) ⟨by omega, zJ.rfl, fun u p hu _ hs => by have := (Sp2.cons_iff.mp hs).1.2.1; omega⟩
    · obtain ⟨hqw, J2, hno⟩ := hI
      have R2 := hR.keep hA (J2.toM (m := m)) (fun a j z => by omega)
      have next : ∀ g3, zJ (fun a j => a = m + 21 ∧ k ≤ j) g g3 → (∀ p, p.length + 1 + k = n → ¬ Sp2 M q used v (w :: p)) → zW (f_X12_goRing_105 (f_grp_X12_goRing N D') N m (nI k) (nI n) (nI used) (nI w) g3) (zI (fun s : Int32 × ZS => s.1 = nI (w + 1) ∧ q < w + 1 ∧ zJ (fun a j => a = m + 21 ∧ k ≤ j) g s.2 ∧ ∀ u p, u < w + 1 → p.length + 1 + k = n → ¬ Sp2 M q used v (u :: p)) (GO M m q used v k n g)) := by
        intro g3 J3 hn3
        unfold f_X12_goRing_105
        rw [zW_some, zI_inl, c_1, nI_add]
        refine ⟨rfl, by omega, J3, fun u p hu hp => ?_⟩
        by_cases e : u = w
        · subst e; exact hn3 p hp
        · exact hno u p (by omega) hp
      show zW (f_X12_goRing_38 (f_grp_X12_goRing N D') N m (nI k) (nI n) (nI used) (nI w) g2) _
      unfold f_X12_goRing_38
      rw [c_8, if_neg (nI_ge hw (by omega)), e_has (by omega) (by omega), Option.bind_some]
      by_cases eu : used / 2 ^ w % 2 = 1
      · rw [if_neg (bI_ne (decide_eq_true eu))]
        exact next g2 J2 (fun p _ hs => (Sp2.cons_iff.mp hs).1.2.2.2 eu)
      · rw [if_pos (bI_eq (decide_eq_false eu))]
        refine w_rdR R2.1.s0 R2.1.r37 (w_rdR R2.1.s0 R2.1.r32 ?_)
        rw [c_1, nI_sub h1, a20_8 R2.1.s21 (by omega), J2.gi (by omega), hv0, Option.bind_some, a20_8 R2.1.s25 hv, J2.gi (by omega), hg v hv, Option.bind_some, e_has (by omega) (by omega), Option.bind_some]
        by_cases ee : M v / 2 ^ w % 2 = 1
        · rw [if_neg (bI_ne (decide_eq_true ee))]
          refine w_rdR R2.1.s0 R2.1.r32 ?_
          rw [w20_8 R2.1.s21 (by omega), Option.bind_some]
          have J3 : zJ (fun a j => a = m + 21 ∧ k ≤ j) g2 (zsetI g2 (m + 21) k (nI w)) := zJ.setI ⟨rfl, Nat.le_refl _⟩
          have R3 := R2.keep hA (J3.toM (m := m)) (fun a j z => by omega)
          obtain ⟨o1, o2⟩ := or256 used hu w hw
          rw [show nI 1 <<< (nI w &&& 31) = bitW w from rfl, o1, nI_add]
          have ih := r_goRing (q := q) (n := n) hN hA hM hq hn8 r D' (k + 1) (used ||| 2 ^ w) w (zsetI g2 (m + 21) k (nI w)) (by omega) (by omega) (by omega) o2 hw R3 (fun u hu => by rw [J3.gi (by omega), J2.gi (by omega)]; exact hg u hu) (by rw [J3.gi (by omega), J2.gi (by omega)]; exact hq0) (by rw [Nat.add_sub_cancel, gi_sI, if_pos ⟨rfl, rfl⟩])
          refine w_vs R3.1.s0 (ih.bind (fun o ho => ?_))
          obtain ⟨z, g4⟩ := o
          obtain ⟨J4, hcase⟩ := ho
          dsimp only at J4 hcase ⊢
          have JJ := (J2.trans J3).trans (J4.mono (S' := fun a j => a = m + 21 ∧ k ≤ j) (fun a j z => ⟨z.1, by omega⟩))
          rcases hcase with ⟨hz, s, a1, a2, a3, a4⟩ | ⟨hz, a1⟩
          · rw [if_neg hz, Option.map_some, zW_some, zI_inr]
            refine ⟨JJ, Or.inl ⟨show ¬ nI 1 = 0 by decide, w :: s, by show s.length + 1 + k = n; omega, Sp2.cons_iff.mpr ⟨⟨ee, hqw, hw, eu⟩, a2⟩, fun s' hs' hl' => ?_, fun j hj => ?_⟩⟩
            · cases s' with
              | nil => have : 0 + k = n := hl'; omega
              | cons u p =>
                have hl2 : p.length + 1 + k = n := hl'
                unfold lxLe
                by_cases c1 : w < u
                · exact Or.inl c1
                · by_cases c2 : u < w
                  · exact absurd hs' (hno u p c2 hl2)
                  · have e : w = u := by omega
                    subst e
                    exact Or.inr ⟨rfl, a3 p (Sp2.cons_iff.mp hs').2 (by omega)⟩
            · show zgi g4 (m + 21) (k + j) = nI ((w :: s).getD j 0)
              cases j with
              | zero => rw [J4.gi (by omega), gi_sI, if_pos ⟨rfl, rfl⟩]; rfl
              | succ j =>
                have hj' : j < s.length := Nat.lt_of_succ_lt_succ hj
                have := a4 j hj'
                rw [show k + (j + 1) = k + 1 + j by omega]
                exact this
          · rw [if_pos hz]
            exact next g4 JJ (fun p hp hs => a1 p (by omega) (Sp2.cons_iff.mp hs).2)
        · rw [if_pos (bI_eq (decide_eq_false ee))]
          exact next g2 J2 (fun p _ hs => ee (Sp2.cons_iff.mp hs).1.1)
    · obtain ⟨hqw, J2, hno⟩ := hI
      show zW (f_X12_goRing_38 (f_grp_X12_goRing N D') N m (nI k) (nI n) (nI used) (nI 8) g2) _
      unfold f_X12_goRing_38
      rw [c_8, if_pos (nI_le (Nat.le_refl _) (by omega)), Option.map_some, zW_some, zI_inr]
      refine ⟨J2, Or.inr ⟨rfl, fun s hs hsp => ?_⟩⟩
      cases s with
      | nil => have : 0 + k = n := hs; omega
      | cons u p => exact hno u p (Sp2.cons_iff.mp hsp).1.2.2.1 hs hsp
/-- the first ring, by length and by its least word -/
def rF (M : Nat → Nat) : Nat := zleast (fun t => rg M (t / 8 + 2) (t % 8)) 56 0
theorem k_clash (hN : 10000 ≤ N) : Call (fun x g => f_X11_clash N x g) (fun m g => f_X12_clash N m g) := call_q (fun x m c g A hC hA hc => by
  obtain ⟨p12, hP⟩ := hA.2.2.2.2.2.2.2.2.1
  obtain ⟨M, hMd⟩ : ∃ M : Nat → Nat, M = fun w => eM (aP A) 0 w (aP A).length := ⟨_, rfl⟩
  have hMe : ∀ w, eM (aP A) 0 w (aP A).length = M w := fun w => by rw [hMd]
  have hM : ∀ w, w < 8 → M w < 256 := fun w _ => by rw [← hMe]; exact eM_lt _ (fun i hi => (hP i hi).2.1)
  obtain ⟨z1, z2, z3, z4⟩ := zleast_spec (fun t => rg M (t / 8 + 2) (t % 8)) 56 0
  obtain ⟨F, hF⟩ : ∃ F, F = zleast (fun t => rg M (t / 8 + 2) (t % 8)) 56 0 := ⟨_, rfl⟩
  rw [← hF] at z1 z2 z3 z4
  have hF56 : F ≤ 56 := by omega
  -- the class, with what its row is
  have cls : ∃ row : List Int64, ∃ a : Int32, row.length ≤ 8 ∧ QC x a row g (f_X11_clash N x g) ∧ ((F < 56 ∧ a = nI (F / 8 + 2) ∧ ∃ G, BP M (F % 8) (F % 8) (F / 8 + 1) G ∧ row = wL (F % 8) :: G.map wL) ∨ (F = 56 ∧ a = -2 ∧ row = aR A)) := by
    have main : zW (f_X11_clash N x g) (fun o => zJ (Scr x) g o.2 ∧ ((F < 56 ∧ o.1 = nI (F / 8 + 2) ∧ ∃ G, BP M (F % 8) (F % 8) (F / 8 + 1) G ∧ XR o.2 (x + 3) (x + 4) (wL (F % 8) :: G.map wL)) ∨ (F = 56 ∧ o.1 = -2 ∧ XR o.2 (x + 3) (x + 4) (aR A)))) := by
      unfold f_X11_clash
      refine w_rdR hC.1.1.s0 hC.1.1.r0_14 (w_vs hC.1.1.s506 ((c_nexts hN hC.1 hA).bind (fun g1 h1 => ?_)))
      obtain ⟨J1, e1⟩ := h1
      rw [c_2]
      refine zW_forI (fun n g' => 2 ≤ n ∧ 8 * (n - 2) ≤ F ∧ zJ (fun a _ => a = x + 509 ∨ a = x + 510) g g' ∧ ∀ w, w < 8 → zgi g' (x + 509) w = nI (M w)) 9 (fun n g2 hn hI => ?_) (fun g2 hI => ?_) (by omega) (show 2 ≤ 9 by omega) ⟨Nat.le_refl _, Nat.zero_le _, J1.mono (fun a j z => Or.inl z), fun w hw => by rw [e1 w hw, hMe]⟩
      · obtain ⟨h2, hn2, J2, e2⟩ := hI
        show zW (f_X11_clash_9 N x (nI n) g2) _
        unfold f_X11_clash_9
        rw [c_8, if_neg (nI_nlt (by omega) (by omega))]
        refine zW_forI (fun w g' => 8 * (n - 2) + w ≤ F ∧ zJ (fun a _ => a = x + 509 ∨ a = x + 510) g g' ∧ ∀ w, w < 8 → zgi g' (x + 509) w = nI (M w)) 8 (fun w g3 hw hI => ?_) (fun g3 hI => ?_) (by omega) (Nat.zero_le _) ⟨hn2, J2, e2⟩
        · obtain ⟨hF3, J3, e3⟩ := hI
          have C3 := hC.1.keep hA J3 (fun a j z => by omega)
          show zW (f_X11_clash_17 N x (nI n) (nI w) g3) _
          unfold f_X11_clash_17
          rw [c_8, if_neg (nI_ge hw (by omega))]
          refine w_rdR C3.1.s0 C3.1.r0_14 (w_vs C3.1.s506 ((c_ring hN C3 hM e3 hw h2 (by omega)).bind (fun o ho => ?_)))
          obtain ⟨y, g4⟩ := o
          obtain ⟨o1, J4, b4⟩ := ho
          dsimp only at o1 J4 b4 ⊢
          have JJ := J3.trans (J4.mono (S' := fun a _ => a = x + 509 ∨ a = x + 510) (fun a j z => Or.inr z))
          have e4 : ∀ w, w < 8 → zgi g4 (x + 509) w = nI (M w) := fun w hw => by rw [J4.gi (by omega)]; exact e3 w hw
          have ht1 : (8 * (n - 2) + w) / 8 + 2 = n := by omega
          have ht2 : (8 * (n - 2) + w) % 8 = w := by omega
          by_cases eF : 8 * (n - 2) + w = F
          · have hF' : F < 56 := by omega
            have hrg : rg M n w = true := by
              have := z4 (by omega)
              rw [← eF, ht1, ht2] at this
              exact this
            have hex := (rg_iff hM hw h2).mp hrg
            rw [if_neg (show ¬ y = 0 by rw [o1]; exact bI_ne hrg), zW_map, zW_map]
            have C4 := hC.1.keep hA JJ (fun a j z => by omega)
            refine w_rdR C4.1.s0 C4.1.r0_14 (w_rdR C4.1.s0 C4.1.r0_1 (w_vs C4.1.s506 ?_))
            unfold f_X7_tellRing
            refine zW.bind (P := fun g' => ∃ G, BP M w w (n - 1) G ∧ zJ (SR (x + 3) (x + 4)) g4 g' ∧ XR g' (x + 3) (x + 4) ([wL w] ++ G.map wL)) ?_ (fun g6 h6 => ?_)
            · refine w_vs C4.1.s3 ((s_only ⟨C4.1.s3, C4.1.s4, C4.1.r3_0⟩).bind (fun g5 h5 => ?_))
              have C5 := C4.keep hA h5.1 (fun a j z => by omega)
              rw [c_1, nI_sub (by omega)]
              obtain ⟨s, hs1, hs2⟩ := hex
              refine (c_tellSteps hN hA hM hw (n - 1) N w g5 [wL w] (by omega) hw C5 (fun w hw => by rw [h5.1.gi (by omega)]; exact e4 w hw) (fun u hu => by rw [h5.1.gi (by omega)]; exact b4 u (by omega)) (by omega) ⟨s, hs1, by omega⟩ (by simp; omega) h5.2).mono (fun g6 h6 => ?_)
              obtain ⟨G, hG, J6, X6⟩ := h6
              exact ⟨G, hG, h5.1.trans J6, X6⟩
            · obtain ⟨G, hG, J6, X6⟩ := h6
              rw [zW_some, zI_inr, zI_inr]
              refine ⟨(JJ.mono (fun a j z => by omega)).trans (J6.mono (fun a j z => by omega)), Or.inl ⟨hF', by rw [← eF, ht1], G, ?_, ?_⟩⟩
              · rw [← eF, ht2, show (8 * (n - 2) + w) / 8 + 1 = n - 1 by omega]; exact hG
              · rw [← eF, ht2]; exact X6
          · have hrg : rg M n w = false := by
              have := z3 (8 * (n - 2) + w) (Nat.zero_le _) (by omega)
              rw [ht1, ht2] at this
              exact this
            rw [if_pos (show y = 0 by rw [o1]; exact bI_eq hrg), zW_some, zI_inl, c_1, nI_add]
            exact ⟨rfl, by omega, JJ, e4⟩
        · obtain ⟨hF3, J3, e3⟩ := hI
          show zW (f_X11_clash_17 N x (nI n) (nI 8) g3) _
          unfold f_X11_clash_17
          rw [c_8, if_pos (nI_le (Nat.le_refl _) (by omega)), Option.map_some, zW_some, zI_inr, zI_inl, c_1, nI_add]
          exact ⟨rfl, by omega, by omega, J3, e3⟩
      · obtain ⟨h2, hn2, J2, e2⟩ := hI
        show zW (f_X11_clash_9 N x (nI 9) g2) _
        unfold f_X11_clash_9
        rw [c_8, if_pos (nI_lt (by omega) (by omega)), Option.map_some, zW_some, zI_inr]
        exact ⟨J2.mono (fun a j z => by omega), Or.inr ⟨by omega, rfl, hC.2.stay J2 (fun a j z => by omega)⟩⟩
    obtain ⟨⟨y, g1⟩, he, J1, h⟩ := main
    dsimp only at J1 h
    rcases h with ⟨a1, a2, G, hG, X1⟩ | ⟨a1, a2, X1⟩
    · refine ⟨wL (F % 8) :: G.map wL, y, ?_, ⟨_, he, rfl, J1, X1⟩, Or.inl ⟨a1, a2, G, hG, rfl⟩⟩
      show (G.map wL).length + 1 ≤ 8
      rw [List.length_map, hG.2.1]; omega
    · exact ⟨aR A, y, hA.2.2.2.2.1, ⟨_, he, rfl, J1, X1⟩, Or.inr ⟨a1, a2, rfl⟩⟩
  obtain ⟨row, a, hrow, hcls, hcase⟩ := cls
  refine ⟨a, row, hrow, hcls, fun g' hR => ?_⟩
  unfold QF f_X12_clash
  refine r_start hR hA (fun g1 J0 hR1 _ => ?_)
  refine w_vs hR1.1.1.s0 ((r_behind (dr := 0) hN hR1.1 hA (by omega)).bind (fun g2 h2 => ?_))
  obtain ⟨J2, e2⟩ := h2
  rw [c_2]
  refine zW_forI (fun n g' => 2 ≤ n ∧ 8 * (n - 2) ≤ F ∧ zJ (fun a _ => a = m + 25 ∨ a = m + 21) g1 g' ∧ ∀ w, w < 8 → zgi g' (m + 25) w = nI (M w)) 9 (fun n g3 hn hI => ?_) (fun g3 hI => ?_) (by omega) (show 2 ≤ 9 by omega) ⟨Nat.le_refl _, Nat.zero_le _, J2.mono (fun a j z => Or.inl z), fun w hw => by rw [e2 w hw, hMe]⟩
  · obtain ⟨h2, hn2, J3, e3⟩ := hI
    show zW (f_X12_clash_12 N m (nI n) g3) _
    unfold f_X12_clash_12
    rw [c_8, if_neg (nI_nlt (by omega) (by omega))]
    refine zW_forI (fun w g' => 8 * (n - 2) + w ≤ F ∧ zJ (fun a _ => a = m + 25 ∨ a = m + 21) g1 g' ∧ ∀ w, w < 8 → zgi g' (m + 25) w = nI (M w)) 8 (fun w g4 hw hI => ?_) (fun g4 hI => ?_) (by omega) (Nat.zero_le _) ⟨hn2, J3, e3⟩
    · obtain ⟨hF3, J4, e4⟩ := hI
      have ht1 : (8 * (n - 2) + w) / 8 + 2 = n := by clear hcase hcls; omega
      have ht2 : (8 * (n - 2) + w) % 8 = w := by clear hcase hcls; omega
      have R4 := hR1.1.keep hA (J4.toM (m := m)) (fun a j z => by omega)
      show zW (f_X12_clash_20 N m (nI n) (nI w) g4) _
      unfold f_X12_clash_20 t_X12_goRing
      rw [c_8, if_neg (nI_ge hw (by omega))]
      refine w_rdR R4.1.s0 R4.1.r32 ?_
      rw [c_0, w20_8 R4.1.s21 (by omega), Option.bind_some, shl_e w (by omega), c_1]
      have J5 : zJ (fun a _ => a = m + 21) g4 (zsetI g4 (m + 21) 0 (nI w)) := zJ.setI rfl
      have R5 := R4.keep hA (J5.toM (m := m)) (fun a j z => by omega)
      have hp8 : 2 ^ w < 256 := Nat.lt_of_lt_of_le (Nat.pow_lt_pow_right (by omega) hw) (show 2 ^ 8 ≤ 256 by decide)
      refine w_vs R5.1.s0 ((r_goRing (q := w) (n := n) hN hA hM hw (by omega) (n - 1) 100 1 (2 ^ w) w _ (by omega) (by omega) (by omega) hp8 hw R5 (fun u hu => by rw [J5.gi (by omega)]; exact e4 u hu) (by rw [gi_sI, if_pos ⟨rfl, rfl⟩]) (by rw [gi_sI, if_pos ⟨rfl, rfl⟩])).bind (fun o ho => ?_))
      obtain ⟨y, g6⟩ := o
      obtain ⟨J6, hgo⟩ := ho
      dsimp only at J6 hgo ⊢
      have JJ := (J4.trans (J5.mono (S' := fun a _ => a = m + 25 ∨ a = m + 21) (fun a j z => Or.inr z))).trans (J6.mono (fun a j z => Or.inr z.1))
      have e6 : ∀ w, w < 8 → zgi g6 (m + 25) w = nI (M w) := fun w hw => by rw [J6.gi (by omega), J5.gi (by omega)]; exact e4 w hw
      -- no shorter way: all are without a word twice
      have nos : ∀ n', 2 ≤ n' → n' < n → ∀ s, s.length + 1 = n' → ¬ Pl M w w s := fun n' a1 a2 s a3 a4 => by
        have h1 := (rg_iff hM hw a1).mpr ⟨s, a4, a3⟩
        have h2 := z3 (8 * (n' - 2) + w) (Nat.zero_le _) (by omega)
        rw [show (8 * (n' - 2) + w) / 8 + 2 = n' by omega, show (8 * (n' - 2) + w) % 8 = w by omega, h1] at h2
        cases h2
      have all : ∀ s, Pl M w w s → s.length + 1 = n → Sp2 M w (2 ^ w) w s := fun s hs hl => by
        refine ⟨hs, ?_, fun u hu hb => ?_⟩
        · refine Decidable.byContradiction (fun hd => ?_)
          obtain ⟨s', b1, b2, b3⟩ := Pl.short s w hs hd
          exact nos (s'.length + 1) (by omega) (by omega) s' rfl b1
        · have h1 := (Pl.gt s w hs u hu).1
          have h2 := pw_bit.mp hb
          omega
      by_cases eF : 8 * (n - 2) + w = F
      · have hF' : F < 56 := by omega
        have hrg : rg M n w = true := by
          have := z4 (by omega)
          rw [← eF, ht1, ht2] at this
          exact this
        obtain ⟨s0, hs0, hl0⟩ := (rg_iff hM hw h2).mp hrg
        rcases hcase with ⟨-, ha, G, hG, hrw⟩ | ⟨h56, -⟩
        · rcases hgo with ⟨hy, s, a1, a2, a3, a4⟩ | ⟨hy, a1⟩
          · rw [if_neg (show ¬ y = nI 0 from hy), zW_map, zW_map]
            rw [← eF, ht2, show (8 * (n - 2) + w) / 8 + 1 = n - 1 by omega] at hG
            have hsG : s = G := lxLe_anti s G (by rw [hG.2.1]; omega) (a3 G (all G hG.1 (by rw [hG.2.1]; omega)) (by rw [hG.2.1]; omega)) (hG.2.2 s a2.1 (by omega))
            have R6 := hR1.1.keep hA (JJ.toM (m := m)) (fun a j z => by omega)
            refine w_rdR R6.1.s0 R6.1.r32 (w_vs R6.1.s0 ?_)
            have hcell : ∀ j, j < (w :: G).length → zgi g6 (m + 21) j = nI ((w :: G).getD j 0) := fun j hj => by
              cases j with
              | zero => rw [J6.gi (by omega), gi_sI, if_pos ⟨rfl, rfl⟩]; rfl
              | succ j =>
                have := a4 j (by rw [hsG]; exact Nat.lt_of_succ_lt_succ hj)
                show zgi g6 (m + 21) (j + 1) = nI (G.getD j 0)
                rw [Nat.add_comm j 1, this, hsG]
            have hlen : (w :: G).length = n := by show G.length + 1 = n; rw [hG.2.1]; omega
            have htl := s_tellList (l := w :: G) hN R6.1 R6.1.s21 (by omega) hcell (by omega)
            rw [hlen] at htl
            refine htl.bind (fun g7 h7 => ?_)
            rw [zW_some, zI_inr, zI_inr, ha, ← eF, ht1]
            refine ⟨rfl, (J0.trans ((JJ.toM (m := m)).mono (fun a j z => by omega))).trans ((h7.1.toM (m := m)).mono (fun a j z => by omega)), ?_⟩
            rw [hrw, ← eF, ht2]
            exact h7.2
          · exact absurd (all s0 hs0 hl0) (a1 s0 (by omega))
        · omega
      · have hrg : rg M n w = false := by
          have := z3 (8 * (n - 2) + w) (Nat.zero_le _) (by omega)
          rw [ht1, ht2] at this
          exact this
        rcases hgo with ⟨hy, s, a1, a2, a3, a4⟩ | ⟨hy, a1⟩
        · have := (rg_iff hM hw h2).mpr ⟨s, a2.1, by omega⟩
          rw [hrg] at this; cases this
        · rw [if_pos (show y = nI 0 from hy), zW_some, zI_inl, nI_add]
          exact ⟨rfl, by omega, JJ, e6⟩
    · obtain ⟨hF3, J4, e4⟩ := hI
      show zW (f_X12_clash_20 N m (nI n) (nI 8) g4) _
      unfold f_X12_clash_20
      rw [c_8, if_pos (nI_le (Nat.le_refl _) (by omega)), Option.map_some, zW_some, zI_inr, zI_inl, c_1, nI_add]
      exact ⟨rfl, by omega, by omega, J4, e4⟩
  · obtain ⟨h2, hn2, J3, e3⟩ := hI
    show zW (f_X12_clash_12 N m (nI 9) g3) _
    unfold f_X12_clash_12
    rw [c_8, if_pos (nI_lt (by omega) (by omega)), Option.map_some, zW_some, zI_inr]
    rcases hcase with ⟨h56, -⟩ | ⟨-, ha, hrw⟩
    · omega
    · rw [ha, hrw]
      exact ⟨rfl, J0.trans ((J3.toM (m := m)).mono (fun a j z => by omega)), hR1.2.keepM (J3.toM (m := m)) (by omega) (fun j => by omega)⟩)
end GR
