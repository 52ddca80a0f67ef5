/-! ===== the class reads a rule: signs ===== -/
abbrev Sr (r : Nat) : Nat → Nat → Prop := fun a _ => a = r ∨ a = r + 1 ∨ a = r + 3 ∨ a = r + 4
theorem sq_sr {r a j : Nat} (h : SQ r a j) : Sr r a j := by
  rcases h with h | h | h
  · exact Or.inl h.1
  · exact Or.inr (Or.inl h)
  · exact Or.inr (Or.inr (Or.inl h))
theorem QK.keep {S : Nat → Nat → Prop} {g g' : ZS} {r : Nat} {k w : List Nat} (h : QK g r k w) (hJ : zJ S g g') (h1 : ¬ S r 4) (h2 : ¬ S r 5) (h3 : ∀ j, ¬ S (r + 1) j) (h4 : ∀ j, ¬ S (r + 3) j) : QK g' r k w :=
  ⟨by rw [hJ.gi h1]; exact h.1, by rw [hJ.gi h2]; exact h.2.1, fun j hj => by rw [hJ.gi (h3 j)]; exact h.2.2.1 j hj, fun j hj => by rw [hJ.gi (h4 _)]; exact h.2.2.2 j hj⟩
theorem QR_mk {g : ZS} {r : Nat} {b : Bool} {d : Nat} {c : List Bool} {k w : List Nat} (h1 : QK g r k w) (h2 : zgi g r 6 = nI (c.length - 1)) (h3 : b = true → zgi g r 7 = nI d) (h4 : zgi g r 8 = bI b) (h5 : ∀ j, j < c.length → zgi g (r + 4) (c.length - 1 - j) = bI (c.getD j false)) : QR g r (b, d, c, k, w) := ⟨h1, h2, h3, h4, h5⟩
def QPost (g : ZS) (r : Nat) (M : QM) (c : Nat) (o : Int32 × ZS) : Prop := zJ (Sr r) g o.2 ∧ ((∃ M', qStep M c = some M' ∧ o.1 = nI 1 ∧ QR o.2 r M') ∨ (qStep M c = none ∧ o.1 = nI 0))
theorem e_zletter {c : Nat} (h : c < 256) : zletter (nI c) = if lkO c < 7 then nI (lkO c) else -nI 1 := co_dec (N := 256) (P := fun c => zletter (nI c) = if lkO c < 7 then nI (lkO c) else -nI 1) (by decide +kernel) h
theorem lkO_dg {c : Nat} (h : lkO c < 7) : dg10 c = false := by
  refine decide_eq_false ?_
  rintro ⟨h1, h2⟩
  unfold lkO at h
  rw [if_neg (by omega), if_neg (by omega), if_neg (by omega), if_neg (by omega), if_neg (by omega), if_neg (by omega), if_neg (by omega)] at h
  omega
theorem s_begin {g : ZS} {r c p : Nat} {M : QM} (hr : QL (zh g) r) (hM : M.1 = false) (hQ : QR g r M) (hI : QI M p) (hp : p < 40) (hc : c < 256) : zW (f_X5_begin r (nI c) g) (QPost g r M c) := by
  obtain ⟨r1, r2, r3, r4, r5, r6, r7, r8, r9⟩ := hr.f
  obtain ⟨q1, q2, q3, q4, q5⟩ := hQ
  obtain ⟨i1, i2, i3, i4, i5, i6⟩ := hI
  rw [hM] at q4
  have hst : qStep M c = qBe M c := by unfold qStep; rw [hM]; rfl
  unfold f_X5_begin
  by_cases h45 : c = 45
  · subst h45
    rw [if_pos (show nI 45 = 45 from rfl), p_vs r1, c_256]
    refine (s_push hr q1 (by omega)).bind (fun g2 h2 => ?_)
    obtain ⟨J, h2⟩ := h2
    rw [zW_some]
    refine ⟨J.mono (fun a j => sq_sr), Or.inl ⟨(false, qd M, qc M, qk M, 256 :: qw M), by rw [hst]; rfl, rfl, QR_mk h2 ?_ (fun x => by cases x) ?_ (fun j hj => ?_)⟩⟩
    · rw [J.gi (by omega)]; exact q2
    · rw [J.gi (by omega)]; exact q4
    · rw [J.gi (by omega)]; exact q5 j hj
  · rw [if_neg (show ¬ nI c = 45 from fun h => h45 ((nI_eq (b := 45) (by omega) (by omega)).mp h))]
    by_cases h40 : c = 40
    · subst h40
      rw [if_pos (show nI 40 = 40 from rfl), p_vs r1]
      unfold f_X5_open
      rw [p_rdI r1, Option.bind_some, q2, c_4]
      by_cases hl : (qc M).length ≤ 4
      · rw [if_pos (nI_lt (by omega) (by omega)), Option.bind_some, p_wrI r1, Option.bind_some, c_1, nI_add, show (qc M).length - 1 + 1 = (qc M).length by omega, p_rdR (by exact r1)]
        show zW (((zgr g r 3).bind _).bind _) _
        have J1 : zJ (fun a j => a = r ∧ j = 6) g (zsetI g r 6 (nI (qc M).length)) := zJ.setI ⟨rfl, rfl⟩
        rw [r9, Option.bind_some, p_rdI (by exact r1), Option.bind_some, gi_sI, if_pos ⟨rfl, rfl⟩, c_0, w22_5 (by exact r5) (by omega), Option.bind_some, nar22_0, p_vs (by exact r1), c_40]
        have J2 : zJ (fun a j => a = r ∧ j = 6 ∨ a = r + 4) g (zsetI (zsetI g r 6 (nI (qc M).length)) (r + 4) (qc M).length (nI 0)) := (J1.mono (fun a j x => Or.inl x)).setI' (Or.inr rfl)
        obtain ⟨g2, hg2⟩ : ∃ x, x = zsetI (zsetI g r 6 (nI (qc M).length)) (r + 4) (qc M).length (nI 0) := ⟨_, rfl⟩
        rw [← hg2] at J2 ⊢
        rw [zW_bind]
        refine (s_push (o := 40) (by rw [J2.1]; exact hr) (q1.keep J2 (by omega) (by omega) (fun j => by omega) (fun j => by omega)) (by omega)).bind (fun g3 h3 => ?_)
        obtain ⟨J3, h3⟩ := h3
        rw [zW_some]
        show zW (if vp_nar .boolean (nI 1) = nI 1 then some (nI 1, g3) else none) _
        rw [if_pos (show vp_nar .boolean (nI 1) = nI 1 from rfl), zW_some]
        refine ⟨(J2.mono (fun a j x => by omega)).trans (J3.mono (fun a j => sq_sr)), Or.inl ⟨(false, qd M, false :: qc M, qk M, 40 :: qw M), ?_, rfl, QR_mk h3 ?_ (fun x => by cases x) ?_ (fun j hj => ?_)⟩⟩
        · rw [hst]; unfold qBe; rw [if_neg (by omega), if_pos rfl, if_pos hl]
        · rw [J3.gi (by omega), hg2, gi_sI, if_neg (by omega), gi_sI, if_pos ⟨rfl, rfl⟩]; rfl
        · rw [J3.gi (by omega), J2.gi (by omega)]; exact q4
        · rw [List.length_cons] at hj ⊢
          rw [J3.gi (by omega), hg2, gi_sI]
          cases j with
          | zero => rw [if_pos ⟨rfl, by omega⟩]; rfl
          | succ j =>
            rw [if_neg (by omega), gi_sI, if_neg (by omega), show (qc M).length + 1 - 1 - (j + 1) = (qc M).length - 1 - j by omega, List.getD_cons_succ]
            exact q5 j (by omega)
      · rw [if_neg (nI_nlt (by omega) (by omega)), Option.bind_some, if_pos (show vp_nar .boolean (0 : Int32) = 0 from rfl), zW_some]
        exact ⟨zJ.rfl, Or.inr ⟨by rw [hst]; unfold qBe; rw [if_neg (by omega), if_pos rfl, if_neg hl], rfl⟩⟩
    · rw [if_neg (show ¬ nI c = 40 from fun h => h40 ((nI_eq (b := 40) (by omega) (by omega)).mp h))]
      have fin : ∀ (t d : Nat), (qStep M c = some (true, d, qc M, qk M ++ [t], qw M)) → zW ((f_X5_emit r (nI t) g).bind fun g1 => f_X5_begin_91 r r (nI d) g1) (QPost g r M c) := by
        intro t d hs
        refine (s_emit hr q1 (by omega)).bind (fun g2 h2 => ?_)
        obtain ⟨J, h2⟩ := h2
        have v1 : zsh g2 r = some (5, 0) := by rw [J.sh]; exact r1
        unfold f_X5_begin_91
        rw [p_wrI v1, Option.bind_some, p_wrZ1 (by exact v1), Option.bind_some, zW_some]
        have J3 : zJ (fun a j => a = r ∧ (j = 7 ∨ j = 8)) g2 (zsetI (zsetI g2 r 7 (nI d)) r 8 1) := (zJ.setI ⟨rfl, Or.inl rfl⟩).setI' ⟨rfl, Or.inr rfl⟩
        refine ⟨(J.mono (fun a j => sq_sr)).trans (J3.mono (fun a j x => Or.inl x.1)), Or.inl ⟨_, hs, rfl, QR_mk (h2.keep J3 (by omega) (by omega) (fun j => by omega) (fun j => by omega)) ?_ (fun _ => ?_) ?_ (fun j hj => ?_)⟩⟩
        · rw [J3.gi (by omega), J.gi (by omega)]; exact q2
        · rw [gi_sI, if_neg (by omega), gi_sI, if_pos ⟨rfl, rfl⟩]
        · rw [gi_sI, if_pos ⟨rfl, rfl⟩]; rfl
        · rw [J3.gi (by omega), J.gi (by omega)]; exact q5 j hj
      by_cases hd : dg10 c = true
      · have hd' := of_decide_eq_true hd
        rw [c_48, show (57 : Int32) = nI 57 from rfl, if_neg (nI_nlt (by omega) (by omega)), if_neg (nI_nlt (by omega) (by omega))]
        unfold f_X5_begin_50 f_X5_begin_61 f_X5_begin_78
        rw [if_neg (show ¬ (1 : Int32) = 0 by decide), if_neg (show ¬ (1 : Int32) = 0 by decide), p_vs r1, c_48, nI_sub (by omega), c_1]
        have := fin (c - 48) 1 (by rw [hst]; unfold qBe; rw [if_neg h45, if_neg h40, hd, if_pos rfl])
        exact this
      · have hlow : zW (f_X5_begin_49 r (nI c) (zletter (nI c)) g) (QPost g r M c) := by
          unfold f_X5_begin_49 f_X5_begin_50 f_X5_begin_61 f_X5_begin_78
          rw [if_pos rfl, if_pos rfl, e_zletter hc]
          by_cases hk : lkO c < 7
          · rw [if_pos hk, c_0, if_pos (nI_le (Nat.zero_le _) (by omega)), p_vs r1, c_1000, nI_add]
            have := fin (1000 + lkO c) 0 (by rw [hst]; unfold qBe; rw [if_neg h45, if_neg h40, if_neg hd, if_pos hk])
            exact this
          · rw [if_neg hk, if_neg (show ¬ (0 : Int32) ≤ -nI 1 by decide), zW_some]
            exact ⟨zJ.rfl, Or.inr ⟨by rw [hst]; unfold qBe; rw [if_neg h45, if_neg h40, if_neg hd, if_neg hk], rfl⟩⟩
        rw [c_48, show (57 : Int32) = nI 57 from rfl]
        by_cases hd2 : c < 48
        · rw [if_pos (nI_lt hd2 (by omega))]; exact hlow
        · rw [if_neg (nI_nlt (by omega) (by omega)), if_pos (nI_lt (by have := of_decide_eq_false (Bool.eq_false_iff.mpr hd); omega) (by omega))]; exact hlow
theorem s_goOn {N : Nat} (hN : 10000 ≤ N) {g : ZS} {r c p : Nat} {M : QM} (hr : QL (zh g) r) (hM : M.1 = true) (hQ : QR g r M) (hI : QI M p) (hp : p < 40) (hc : c < 256) : zW (f_X5_goOn N r (nI c) g) (QPost g r M c) := by
  obtain ⟨r1, r2, r3, r4, r5, r6, r7, r8, r9⟩ := hr.f
  obtain ⟨q1, q2, q3, q4, q5⟩ := hQ
  obtain ⟨i1, i2, i3, i4, i5, i6⟩ := hI
  have q3 := q3 hM
  have i4 := i4 hM
  rw [hM] at q4
  have hst : qStep M c = qGo M c := by unfold qStep; rw [hM]; rfl
  unfold f_X5_goOn
  by_cases hd : dg10 c = true
  · have hd' := of_decide_eq_true hd
    rw [c_48, show (57 : Int32) = nI 57 from rfl, if_neg (nI_nlt (by omega) (by omega)), if_neg (nI_nlt (by omega) (by omega)), p_vs r1, nI_sub (by omega)]
    unfold f_X5_lengthen f_X5_lengthen_24
    by_cases h12 : 1 ≤ qd M ∧ qd M ≤ 2
    · obtain ⟨k0, a, hk0⟩ : ∃ k0 a, qk M = k0 ++ [a] := ⟨_, _, (List.dropLast_concat_getLast (by intro e; rw [e] at i4; simp at i4)).symm⟩
      have hkl : (qk M).length = k0.length + 1 := by rw [hk0, List.length_append, List.length_singleton]
      obtain ⟨x1, x2, x3, x4⟩ := id q1
      have hlast : zgi g (r + 1) k0.length = nI a := by
        rw [x3 _ (by omega), hk0, getD_apn, if_neg (by omega), if_pos rfl]
      rw [p_rdI r1, Option.bind_some, q3, c_1, if_neg (nI_nlt h12.1 (by omega)), Option.bind_some, c_2, if_neg (nI_nlt h12.2 (by omega)), p_rdI r1, Option.bind_some, x1, if_pos (nI_le i4 (by omega)), p_rdR r1, r6, Option.bind_some, Option.bind_some, Option.bind_some, Option.bind_some, nI_sub i4, show (qk M).length - 1 = k0.length by omega, a20_40 r2 (by omega), Option.bind_some, hlast, c_10, nI_mul, nI_add, w20_40 r2 (by omega), Option.bind_some, p_rdI (by exact r1), Option.bind_some, gi_sI, if_neg (by omega), q3, p_wrI (by exact r1), Option.bind_some, nI_add, Option.bind_some, if_pos (show vp_nar .boolean (nI 1) = nI 1 from rfl), zW_some]
      have J : zJ (fun x j => x = r + 1 ∨ x = r ∧ j = 7) g (zsetI (zsetI g (r + 1) k0.length (nI (a * 10 + (c - 48)))) r 7 (nI (qd M + 1))) := (zJ.setI (Or.inl rfl)).setI' (Or.inr ⟨rfl, rfl⟩)
      refine ⟨J.mono (fun x j h => by omega), Or.inl ⟨(true, qd M + 1, qc M, len1 (qk M) (c - 48), qw M), ?_, rfl, QR_mk ⟨?_, ?_, fun j hj => ?_, fun j hj => ?_⟩ ?_ (fun _ => ?_) ?_ (fun j hj => ?_)⟩⟩
      · rw [hst]; unfold qGo; rw [hd, if_pos rfl, if_pos h12]
      · rw [J.gi (by omega), len1_len i4]; exact x1
      · rw [J.gi (by omega)]; exact x2
      · rw [len1_len i4] at hj
        rw [hk0, len1_app, getD_apn, gi_sI, if_neg (by omega), gi_sI]
        by_cases e : j = k0.length
        · subst e; rw [if_pos ⟨rfl, rfl⟩, if_neg (by omega), if_pos rfl]
        · rw [if_neg (by omega), if_pos (by omega), x3 j hj, hk0, getD_apn, if_pos (by omega)]
      · rw [J.gi (by omega)]; exact x4 j hj
      · rw [J.gi (by omega)]; exact q2
      · rw [gi_sI, if_pos ⟨rfl, rfl⟩]
      · rw [J.gi (by omega)]; exact q4
      · rw [J.gi (by omega)]; exact q5 j hj
    · have hno : QPost g r M c (nI 0, g) := ⟨zJ.rfl, Or.inr ⟨by rw [hst]; unfold qGo; rw [hd, if_pos rfl, if_neg h12], rfl⟩⟩
      rw [p_rdI r1, Option.bind_some, q3, c_1]
      by_cases h1 : qd M < 1
      · rw [if_pos (nI_lt h1 (by omega)), Option.bind_some, if_pos (show vp_nar .boolean (0 : Int32) = 0 from rfl), zW_some]; exact hno
      · rw [if_neg (nI_nlt (by omega) (by omega)), Option.bind_some, c_2, if_pos (nI_lt (by omega) (by omega)), Option.bind_some, if_pos (show vp_nar .boolean (0 : Int32) = 0 from rfl), zW_some]; exact hno
  · have hlow : zW (f_X5_goOn_21 N r (nI c) g) (QPost g r M c) := by
      unfold f_X5_goOn_21
      by_cases h41 : c = 41
      · subst h41
        rw [if_pos (show nI 41 = 41 from rfl), p_vs r1]
        unfold f_X5_close
        rw [p_rdI r1, Option.bind_some, q2, c_0]
        obtain ⟨x, cs, hqc⟩ : ∃ x cs, qc M = x :: cs := by
          cases hq : qc M with
          | nil => rw [hq] at i2; simp at i2
          | cons x cs => exact ⟨x, cs, rfl⟩
        rw [hqc, List.length_cons] at i3
        cases cs with
        | nil =>
          rw [hqc]
          rw [if_neg (show ¬ nI 0 < nI ([x].length - 1) from nI_nlt (by simp) (by omega)), Option.bind_some, if_pos (show vp_nar .boolean (nI 0) = nI 0 from rfl), zW_some]
          refine ⟨zJ.rfl, Or.inr ⟨?_, rfl⟩⟩
          rw [hst]; unfold qGo; rw [if_neg hd, if_pos rfl, hqc]
        | cons y cs =>
          have hl2 : (qc M).length - 1 = cs.length + 1 := by rw [hqc]; rfl
          rw [List.length_cons] at i3
          rw [hl2, if_pos (nI_lt (by omega) (by omega)), p_vs r1, c_1, zW_bind]
          obtain ⟨e1, e2, e3⟩ := rel_len (ρ := 1) (qw M) (qk M)
          refine (s_release hN hr q1 (by omega) i6 (by omega)).bind (fun g2 h2 => ?_)
          obtain ⟨J, h2⟩ := h2
          have v1 : zsh g2 r = some (5, 0) := by rw [J.sh]; exact r1
          have hs : qStep M 41 = some (true, 0, y :: cs, (rel 1 (qk M) (qw M)).1, (rel 1 (qk M) (qw M)).2.tail) := by
            rw [hst]; unfold qGo; rw [if_neg hd, if_pos rfl, hqc]
          obtain ⟨z1, z2, z3, z4⟩ := id h2
          generalize (rel 1 (qk M) (qw M)).1 = k' at *
          generalize (rel 1 (qk M) (qw M)).2 = w' at *
          have fin : ∀ g3, zJ (fun x j => x = r ∧ j = 5) g2 g3 → QK g3 r k' w'.tail → zW (f_X5_close_31 N r g3) (fun o => zW (if vp_nar .boolean o.1 = o.1 then some (o.1, o.2) else none) (QPost g r M 41)) := by
            intro g3 J3 h3
            have v3 : zsh g3 r = some (5, 0) := by rw [J3.sh]; exact v1
            have y6 : zgi g3 r 6 = nI (cs.length + 1) := by rw [J3.gi (by omega), J.gi (by omega), q2, hl2]
            unfold f_X5_close_31
            rw [p_rdI v3, Option.bind_some, y6, c_1, nI_sub (by omega), p_wrI v3, Option.bind_some, p_wrI (by exact v3), Option.bind_some, c_0, zW_some, if_pos (show vp_nar .boolean (nI 1) = nI 1 from rfl), zW_some]
            have J4 : zJ (fun x j => x = r ∧ (j = 6 ∨ j = 7)) g3 (zsetI (zsetI g3 r 6 (nI (cs.length + 1 - 1))) r 7 (nI 0)) := (zJ.setI ⟨rfl, Or.inl rfl⟩).setI' ⟨rfl, Or.inr rfl⟩
            refine ⟨((J.mono (fun a j => sq_sr)).trans (J3.mono (fun a j x => Or.inl x.1))).trans (J4.mono (fun a j x => Or.inl x.1)), Or.inl ⟨_, hs, rfl, QR_mk (h3.keep J4 (by omega) (by omega) (fun j => by omega) (fun j => by omega)) ?_ (fun _ => ?_) ?_ (fun j hj => ?_)⟩⟩
            · rw [gi_sI, if_neg (by omega), gi_sI, if_pos ⟨rfl, rfl⟩]; rfl
            · rw [gi_sI, if_pos ⟨rfl, rfl⟩]
            · rw [J4.gi (by omega), J3.gi (by omega), J.gi (by omega)]; exact q4
            · rw [J4.gi (by omega), J3.gi (by omega), J.gi (by omega)]
              have := q5 (j + 1) (by rw [hqc, List.length_cons]; omega)
              rw [hl2, hqc, List.getD_cons_succ] at this
              rw [← this]
              rw [List.length_cons] at hj ⊢
              congr 1; omega
          cases w' with
          | nil =>
            have z2' : zgi g2 r 5 = nI 0 := z2
            rw [p_rdI v1, Option.bind_some, z2', if_pos (nI_le (Nat.le_refl _) (by omega))]
            exact fin g2 zJ.rfl h2
          | cons o w' =>
            rw [List.length_cons] at z2 e1
            rw [p_rdI v1, Option.bind_some, z2, if_neg (nI_ge (by omega) (by omega)), Option.bind_some, p_wrI v1, Option.bind_some, nI_sub (by omega), Nat.add_sub_cancel]
            have J3 : zJ (fun x j => x = r ∧ j = 5) g2 (zsetI g2 r 5 (nI w'.length)) := zJ.setI ⟨rfl, rfl⟩
            refine fin _ J3 ⟨by rw [J3.gi (by omega)]; exact z1, by rw [gi_sI, if_pos ⟨rfl, rfl⟩]; rfl, fun j hj => by rw [J3.gi (by omega)]; exact z3 j hj, fun j hj => ?_⟩
            rw [J3.gi (by omega)]
            have := z4 (j + 1) (by rw [List.length_cons]; have : j < w'.length := hj; omega)
            rw [List.length_cons, show w'.length + 1 - 1 - (j + 1) = w'.length - 1 - j by omega, List.getD_cons_succ] at this
            exact this
      · have hk4 := rkO_le hc
        rw [if_neg (show ¬ nI c = 41 from fun h => h41 ((nI_eq (b := 41) (by omega) (by omega)).mp h)), e_rank (by omega), Option.bind_some]
        unfold f_X5_goOn_58
        by_cases h0 : rkO c = 0
        · rw [h0, if_pos (show nI 0 = 0 from rfl), zW_some]
          exact ⟨zJ.rfl, Or.inr ⟨by rw [hst]; unfold qGo; rw [if_neg hd, if_neg h41, if_pos h0], rfl⟩⟩
        · rw [if_neg (nI_ne0 (by omega) (by omega))]
          have fin : ∀ g2, zJ (fun x _ => x = r + 4) g g2 → ∀ qc', qc'.length = (qc M).length → (∀ j, j < qc'.length → zgi g2 (r + 4) (qc'.length - 1 - j) = bI (qc'.getD j false)) → qStep M c = some (false, qd M, qc', (rel (rkO c) (qk M) (qw M)).1, c :: (rel (rkO c) (qk M) (qw M)).2) → zW (f_X5_goOn_75 N r (nI c) (nI (rkO c)) g2) (QPost g r M c) := by
            intro g2 J2 qc' hql hqc' hs
            have v1 : zsh g2 r = some (5, 0) := by rw [J2.sh]; exact r1
            have hr2 : QL (zh g2) r := by rw [J2.1]; exact hr
            obtain ⟨e1, e2, e3⟩ := rel_len (ρ := rkO c) (qw M) (qk M)
            unfold f_X5_goOn_75
            rw [p_vs v1]
            refine (s_release hN hr2 (q1.keep J2 (by omega) (by omega) (fun j => by omega) (fun j => by omega)) (by omega) i6 (by omega)).bind (fun g3 h3 => ?_)
            obtain ⟨J3, h3⟩ := h3
            rw [p_vs (by rw [J3.sh]; exact v1)]
            refine (s_push (o := c) (by rw [J3.1]; exact hr2) h3 (by omega)).bind (fun g4 h4 => ?_)
            obtain ⟨J4, h4⟩ := h4
            rw [p_wrZ0 (by rw [J4.sh, J3.sh]; exact v1), Option.bind_some, zW_some]
            have J5 : zJ (fun x j => x = r ∧ j = 8) g4 (zsetI g4 r 8 0) := zJ.setI ⟨rfl, rfl⟩
            refine ⟨(((J2.mono (fun a j x => by omega)).trans (J3.mono (fun a j => sq_sr))).trans (J4.mono (fun a j => sq_sr))).trans (J5.mono (fun a j x => Or.inl x.1)), Or.inl ⟨_, hs, rfl, QR_mk (h4.keep J5 (by omega) (by omega) (fun j => by omega) (fun j => by omega)) ?_ (fun x => by cases x) ?_ (fun j hj => ?_)⟩⟩
            · rw [J5.gi (by omega), J4.gi (by omega), J3.gi (by omega), J2.gi (by omega), hql]; exact q2
            · rw [gi_sI, if_pos ⟨rfl, rfl⟩]; rfl
            · rw [J5.gi (by omega), J4.gi (by omega), J3.gi (by omega)]; exact hqc' j hj
          by_cases h1 : rkO c = 1
          · obtain ⟨x, cs, hqc⟩ : ∃ x cs, qc M = x :: cs := by
              cases hq : qc M with
              | nil => rw [hq] at i2; simp at i2
              | cons x cs => exact ⟨x, cs, rfl⟩
            have q50 := q5 0 (by omega)
            rw [hqc] at q50 q2 i3
            have q50' : zgi g (r + 4) cs.length = bI x := q50
            have q2' : zgi g r 6 = nI cs.length := q2
            rw [List.length_cons] at i3
            rw [h1, c_1, if_pos rfl, p_rdR r1, r9, Option.bind_some, p_rdI r1, Option.bind_some, q2', a22_5 r5 (by omega), Option.bind_some, q50']
            cases x with
            | true =>
              rw [if_neg (show ¬ bI true = 0 by decide), zW_some]
              refine ⟨zJ.rfl, Or.inr ⟨?_, rfl⟩⟩
              rw [hst]; unfold qGo
              rw [if_neg hd, if_neg h41, if_neg h0, if_pos ⟨h1, by rw [hqc]; rfl⟩]
            | false =>
              rw [if_pos (show bI false = 0 by decide)]
              unfold f_X5_goOn_60
              rw [c_1, if_pos rfl, p_rdR r1, r9, Option.bind_some, p_rdI r1, Option.bind_some, q2', w22_5 r5 (by omega), Option.bind_some, nar22_1]
              have hfin := fin (zsetI g (r + 4) cs.length (nI 1)) (zJ.setI rfl) (true :: cs) (by rw [hqc]; rfl)
              rw [h1] at hfin
              refine hfin (fun j hj => ?_) ?_
              · rw [gi_sI]
                cases j with
                | zero => rw [if_pos ⟨rfl, by simp⟩]; rfl
                | succ j =>
                  rw [List.length_cons] at hj ⊢
                  have := q5 (j + 1) (by rw [hqc, List.length_cons]; omega)
                  rw [hqc, List.length_cons, List.getD_cons_succ] at this
                  rw [if_neg (by omega), List.getD_cons_succ]
                  exact this
              · rw [hst]; unfold qGo
                rw [if_neg hd, if_neg h41, if_neg h0, if_neg (by rintro ⟨_, z⟩; rw [hqc] at z; cases z), if_pos h1, hqc, h1]; rfl
          · rw [if_neg (show ¬ nI (rkO c) = 1 from fun h => h1 ((nI_eq (b := 1) (by omega) (by omega)).mp h))]
            unfold f_X5_goOn_60
            rw [if_neg (show ¬ nI (rkO c) = 1 from fun h => h1 ((nI_eq (b := 1) (by omega) (by omega)).mp h))]
            refine fin g zJ.rfl (qc M) rfl q5 ?_
            rw [hst]; unfold qGo
            rw [if_neg hd, if_neg h41, if_neg h0, if_neg (fun z => h1 z.1), if_neg h1]
    rw [c_48, show (57 : Int32) = nI 57 from rfl]
    by_cases hd2 : c < 48
    · rw [if_pos (nI_lt hd2 (by omega))]; exact hlow
    · rw [if_neg (nI_nlt (by omega) (by omega)), if_pos (nI_lt (by have := of_decide_eq_false (Bool.eq_false_iff.mpr hd); omega) (by omega))]; exact hlow
