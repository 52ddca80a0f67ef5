/-! ===== rules are read: both ===== -/
theorem QI0 : QI M0 0 := QI_mk (by decide) (by decide) (by decide) (fun x => (by cases x)) (by decide) (fun o ho => (by cases ho))
def Out (l : List Nat) (x : Int32) (ok : List Nat → Prop) : Prop := (∃ e, e ≤ 40 ∧ FailAt (l.take 40) M0 0 e ∧ l ≠ [] ∧ x = nI e) ∨ (∃ code, Acc (l.take 40) code ∧ 40 < l.length ∧ x = nI 40) ∨ (∃ code, Rul l code ∧ x = -nI 1 ∧ ok code)
theorem Out.mono {l : List Nat} {x : Int32} {ok ok' : List Nat → Prop} (h : Out l x ok) (hm : ∀ c, ok c → ok' c) : Out l x ok' := by
  rcases h with h | h | ⟨c, h1, h2, h3⟩
  · exact Or.inl h
  · exact Or.inr (Or.inl h)
  · exact Or.inr (Or.inr ⟨c, h1, h2, hm c h3⟩)
theorem Out.agree {l : List Nat} {x y : Int32} {ok ok' : List Nat → Prop} (h : Out l x ok) (h' : Out l y ok') : x = y ∧ (x = -nI 1 → ∃ c, Rul l c ∧ ok c) := by
  have nn : ∀ e, e ≤ 40 → nI e = -nI 1 → False := fun e he h => by rw [ng_eq (by omega) (by omega)] at h; omega
  rcases h with ⟨e, h0, h1, h2, rfl⟩ | ⟨c, h1, h2, rfl⟩ | ⟨c, h1, rfl, h3⟩
  · refine ⟨?_, fun h => (nn e h0 h).elim⟩
    rcases h' with ⟨e', k0, k1, k2, rfl⟩ | ⟨c', k1, k2, rfl⟩ | ⟨c', k1, rfl, k3⟩
    · rw [h1.det k1]
    · exact (k1.noFail h1).elim
    · obtain ⟨j1, j2, j3, j4⟩ := k1
      rcases j4 with ⟨j4, _⟩ | ⟨_, j5⟩
      · exact absurd j4 h2
      · rw [take_all j1] at h1; exact (j5.noFail h1).elim
  · refine ⟨?_, fun h => (nn 40 (Nat.le_refl _) h).elim⟩
    rcases h' with ⟨e', k0, k1, k2, rfl⟩ | ⟨c', k1, k2, rfl⟩ | ⟨c', k1, rfl, k3⟩
    · exact (h1.noFail k1).elim
    · rfl
    · have := k1.1; omega
  · refine ⟨?_, fun _ => ⟨c, h1, h3⟩⟩
    rcases h' with ⟨e', k0, k1, k2, rfl⟩ | ⟨c', k1, k2, rfl⟩ | ⟨c', k1, rfl, k3⟩
    · obtain ⟨j1, j2, j3, j4⟩ := h1
      rcases j4 with ⟨j4, _⟩ | ⟨_, j5⟩
      · exact absurd j4 k2
      · rw [take_all j1] at k1; exact (j5.noFail k1).elim
    · have := h1.1; omega
    · rfl
abbrev Sq (r : Nat) : Nat → Nat → Prop := fun a _ => r ≤ a ∧ a < r + 5
theorem s_readFrom {N : Nat} (hN : 10000 ≤ N) {g : ZS} {r t u : Nat} {l : List Nat} (hr : QL (zh g) r) (hT : XT g t u l) (d1 : t < r ∨ r + 5 ≤ t) (d2 : u < r ∨ r + 5 ≤ u) : zW (f_X5_readFrom N r t g) (fun o => zJ (Sq r) g o.2 ∧ Out l o.1 (fun c => CQ o.2 r c)) := by
  obtain ⟨r1, r2, r3, r4, r5, r6, r7, r8, r9⟩ := hr.f
  obtain ⟨t1, t2, t3, t4, t5, t6⟩ := id hT
  have hv : ∀ p, (l.take 40).getD p 0 < 256 := fun p => by
    by_cases e : p < (l.take 40).length
    · rw [vis_get e]; exact hT.c256 p
    · rw [getD_ge (by omega)]; omega
  have hvl : (l.take 40).length = min 40 l.length := List.length_take
  unfold f_X5_readFrom
  rw [p_wrI r1, Option.bind_some, p_wrI (by exact r1), Option.bind_some, p_wrI (by exact r1), Option.bind_some, p_rdR (by exact r1)]
  show zW ((zgr g r 3).bind _) _
  rw [r9, Option.bind_some, c_0, w22_5 (by exact r5) (by omega), Option.bind_some, nar22_0, p_wrZ (v := nI 0) (by exact r1) (Or.inl rfl), Option.bind_some]
  obtain ⟨g1, hg1⟩ : ∃ x, x = zsetI (zsetI (zsetI (zsetI (zsetI g r 4 (nI 0)) r 5 (nI 0)) r 6 (nI 0)) (r + 4) 0 (nI 0)) r 8 (nI 0) := ⟨_, rfl⟩
  rw [← hg1]
  have J1 : zJ (Sq r) g g1 := by
    rw [hg1]
    exact (((((zJ.rfl.setI' ⟨by omega, by omega⟩).setI' ⟨by omega, by omega⟩).setI' ⟨by omega, by omega⟩).setI' ⟨by omega, by omega⟩).setI' ⟨by omega, by omega⟩)
  have hQ1 : QR g1 r M0 := by
    refine QR_mk ⟨?_, ?_, fun j hj => absurd hj (by simp), fun j hj => absurd hj (by simp)⟩ ?_ (fun x => by cases x) ?_ (fun j hj => ?_)
    · rw [hg1, gi_sI, if_neg (by omega), gi_sI, if_neg (by omega), gi_sI, if_neg (by omega), gi_sI, if_neg (by omega), gi_sI, if_pos ⟨rfl, rfl⟩]; rfl
    · rw [hg1, gi_sI, if_neg (by omega), gi_sI, if_neg (by omega), gi_sI, if_neg (by omega), gi_sI, if_pos ⟨rfl, rfl⟩]; rfl
    · rw [hg1, gi_sI, if_neg (by omega), gi_sI, if_neg (by omega), gi_sI, if_pos ⟨rfl, rfl⟩]; rfl
    · rw [hg1, gi_sI, if_pos ⟨rfl, rfl⟩]; rfl
    · have : j = 0 := by simp at hj; omega
      subst this
      rw [hg1, gi_sI, if_neg (by omega), gi_sI, if_pos ⟨rfl, rfl⟩]; rfl
  have hI0 : QI M0 0 := QI0
  clear hg1
  have hT' : ∀ g', zJ (Sq r) g g' → XT g' t u l := fun g' J => ⟨by rw [J.sh]; exact t1, by rw [J.sh]; exact t2, by rw [J.gr]; exact t3, by rw [J.gi (by omega)]; exact t4, t5, fun j hj => by rw [J.gi (by omega)]; exact t6 j hj⟩
  have hQL : ∀ g', zJ (Sq r) g g' → QL (zh g') r := fun g' J => by rw [J.1]; exact hr
  refine zW_forI (fun i g' => i ≤ 40 ∧ zJ (Sq r) g g' ∧ ∃ M, Reach (l.take 40) M0 0 M i ∧ QR g' r M ∧ QI M i) l.length (fun i g' hi hI => ?_) (fun g' hI => ?_) (by omega) (Nat.zero_le _) ⟨by omega, J1, M0, Reach.rfl, hQ1, hI0⟩
  · obtain ⟨hi40, hJ, M, hRe, hQ, hQI⟩ := hI
    have hX := hT' g' hJ
    have hQLr := hQL g' hJ
    have v1 : zsh g' r = some (5, 0) := by rw [hJ.sh]; exact r1
    have hc := hX.c256 i
    show zW (f_X5_readFrom_29 N r t (nI i) g') _
    unfold f_X5_readFrom_29 f_X5_readFrom_75 f_X5_readFrom_77
    rw [p_rdI hX.1, Option.bind_some, hX.2.2.2.1, if_neg (nI_ge hi (by omega)), p_vs hX.1, e_at hX (by omega), Option.bind_some, c_40]
    by_cases h40 : 40 ≤ i
    · have : i = 40 := by omega
      subst this
      rw [if_pos (nI_le (Nat.le_refl _) (by omega)), Option.map_some, zW_some, zI_inr]
      refine ⟨hJ, ?_⟩
      have hend : (l.take 40).length = 40 := by omega
      by_cases ha : M.1 = true ∧ (qc M).length = 1
      · exact Or.inr (Or.inl ⟨_, ⟨M, by rw [hend]; exact hRe, ha.1, ha.2, rfl⟩, hi, rfl⟩)
      · refine Or.inl ⟨40, Nat.le_refl _, ⟨M, hRe, Or.inr ⟨hend.symm, ?_⟩⟩, by intro e; rw [e] at hi; simp at hi, rfl⟩
        cases hm : M.1 with
        | false => exact Or.inl rfl
        | true =>
          refine Or.inr ?_
          have := hQI.2.1
          have : (qc M).length ≠ 1 := fun h => ha ⟨hm, h⟩
          omega
    · rw [if_neg (nI_ge (by omega) (by omega)), p_rdI v1, Option.bind_some, hQ.2.2.2.1]
      have hiv : i < (l.take 40).length := by omega
      have hgi : (l.take 40).getD i 0 = l.getD i 0 := vis_get hiv
      have cont : ∀ o : Int32 × ZS, QPost g' r M (l.getD i 0) o → zW (if o.1 = 0 then (some (nI i, o.2)).map Sum.inr else (some (.inl (nI i + 1, o.2)) : Option ((Int32 × ZS) ⊕ (Int32 × ZS)))) (zI (fun s => s.1 = nI (i + 1) ∧ i + 1 ≤ 40 ∧ zJ (Sq r) g s.2 ∧ ∃ M, Reach (l.take 40) M0 0 M (i + 1) ∧ QR s.2 r M ∧ QI M (i + 1)) (fun o => zJ (Sq r) g o.2 ∧ Out l o.1 (fun c => CQ o.2 r c))) := by
        intro o ho
        obtain ⟨J2, ho⟩ := ho
        have hJ2 : zJ (Sq r) g o.2 := hJ.trans (J2.mono (fun a j x => by omega))
        rcases ho with ⟨M', m1, m2, m3⟩ | ⟨m1, m2⟩
        · rw [m2, if_neg (show ¬ nI 1 = 0 by decide), zW_some, zI_inl, c_1, nI_add]
          exact ⟨rfl, by omega, hJ2, M', hRe.trans (Reach.step hiv (by rw [hgi]; exact m1)), m3, hQI.step hc m1⟩
        · rw [m2, if_pos (show nI 0 = 0 from rfl), Option.map_some, zW_some, zI_inr]
          exact ⟨hJ2, Or.inl ⟨i, hi40, ⟨M, hRe, Or.inl ⟨hiv, by rw [hgi]; exact m1⟩⟩, by intro e; rw [e] at hi; simp at hi, rfl⟩⟩
      cases hm : M.1 with
      | false =>
        rw [if_pos (show bI false = 0 by decide), p_vs v1]
        exact (s_begin hQLr hm hQ hQI (by omega) hc).bind (fun o ho => cont o ho)
      | true =>
        rw [if_neg (show ¬ bI true = 0 by decide), p_vs v1]
        exact (s_goOn hN hQLr hm hQ hQI (by omega) hc).bind (fun o ho => cont o ho)
  · obtain ⟨hi40, hJ, M, hRe, hQ, hQI⟩ := hI
    have hX := hT' g' hJ
    have hQLr := hQL g' hJ
    have v1 : zsh g' r = some (5, 0) := by rw [hJ.sh]; exact r1
    have hva : l.take 40 = l := take_all hi40
    obtain ⟨i1, i2, i3, i4, i5, i6⟩ := hQI
    have fin : (l = [] ∧ (rel 0 (qk M) (qw M)).1 = [] ∨ l ≠ [] ∧ Acc l (rel 0 (qk M) (qw M)).1) → zW (f_X5_readFrom_109 N r g') (fun o => zJ (Sq r) g o.2 ∧ Out l o.1 (fun c => CQ o.2 r c)) := by
      intro hR
      obtain ⟨e1, e2, e3⟩ := rel_len (ρ := 0) (qw M) (qk M)
      unfold f_X5_readFrom_109
      rw [p_vs v1, c_0]
      refine (s_release hN hQLr hQ.1 (by omega) i6 (by omega)).bind (fun g2 h2 => ?_)
      obtain ⟨J2, h2⟩ := h2
      rw [zW_some]
      exact ⟨hJ.trans (J2.mono (fun a j x => by omega)), Or.inr (Or.inr ⟨_, ⟨hi40, fun p => hT.c256 p, by omega, hR⟩, rfl, h2.1, h2.2.2.1⟩)⟩
    have bad : (M.1 = false ∨ 2 ≤ (qc M).length) → l ≠ [] → zW (f_X5_readFrom_104 N t g') (fun o => zJ (Sq r) g o.2 ∧ Out l o.1 (fun c => CQ o.2 r c)) := by
      intro h1 h2
      unfold f_X5_readFrom_104
      rw [p_rdI hX.1, Option.bind_some, hX.2.2.2.1, zW_some]
      exact ⟨hJ, Or.inl ⟨l.length, hi40, ⟨M, hRe, Or.inr ⟨by rw [hva], h1⟩⟩, h2, rfl⟩⟩
    show zW (f_X5_readFrom_29 N r t (nI l.length) g') _
    unfold f_X5_readFrom_29
    rw [p_rdI hX.1, Option.bind_some, hX.2.2.2.1, if_pos (nI_le (Nat.le_refl _) (by omega)), Option.bind_some, zW_map]
    show zW _ (fun (o : Int32 × ZS) => zJ (Sq r) g o.2 ∧ Out l o.1 (fun c => CQ o.2 r c))
    by_cases h0 : l = []
    · subst h0
      rw [if_pos (show nI ([] : List Nat).length ≤ 0 from nI_le (a := 0) (b := 0) (by omega) (by omega))]
      refine fin (Or.inl ⟨rfl, ?_⟩)
      have : M = M0 := hRe.det Reach.rfl
      subst this
      rfl
    · have hl0 : 0 < l.length := List.length_pos_iff.mpr h0
      rw [if_neg (nI_nle hl0 (by omega)), p_rdI v1, Option.bind_some, hQ.2.2.2.1]
      cases hm : M.1 with
      | false =>
        rw [if_pos (show bI false = 0 by decide)]
        exact bad (Or.inl hm) h0
      | true =>
        rw [if_neg (show ¬ bI true = 0 by decide), p_rdI v1, Option.bind_some, hQ.2.1]
        by_cases hd : (qc M).length = 1
        · rw [hd, if_pos (show nI (1 - 1) ≤ 0 from nI_le (a := 0) (b := 0) (by omega) (by omega))]
          exact fin (Or.inr ⟨h0, M, by rw [hva] at hRe; exact hRe, hm, hd, rfl⟩)
        · rw [if_neg (nI_nle (by omega) (by omega))]
          exact bad (Or.inr (by omega)) h0
/-! the reference -/
def RT (g : ZS) (m : Nat) (l : List Nat) : Prop := zgi g m 7 = nI l.length ∧ l.length ≤ 80 ∧ ∀ j, j < l.length → zgi g (m + 6) j = sx (l.getD j 0) ∧ l.getD j 0 < 256
abbrev SB (m : Nat) : Nat → Nat → Prop := fun x j => x = m ∧ (j = 7 ∨ 12 ≤ j ∧ j ≤ 15 ∨ j = 20)
theorem s_beginText {g : ZS} {m t : Nat} {l : List Nat} (hR : LR m (zh g)) (hT : RT g m l) (ht : t ≤ 80) : zW (f_X12_beginText m (nI t) g) (fun g' => zM m (SB m) g g' ∧ RD g' m (m + 6) 80 l t ∧ zgi g' m 14 = nI 0 ∧ zgi g' m 15 = -nI 1 ∧ zgi g' m 7 = nI 0) := by
  have s0 := hR.s0
  have s6 := hR.s6
  have r6 := hR.r6
  obtain ⟨t1, t2, t3⟩ := hT
  unfold f_X12_beginText f_X12_begin
  rw [p_rdR s0, r6, Option.bind_some, p_rdI s0, Option.bind_some, t1, p_vs s0, p_wrR s0, Option.bind_some, p_wrI (by exact s0), Option.bind_some, p_wrI (by exact s0), Option.bind_some, p_wrI (by exact s0), Option.bind_some, p_wrI (by exact s0), Option.bind_some, Option.bind_some, p_wrI (by exact s0), Option.bind_some, zW_some, c_0, c_1]
  have hM : zM m (SB m) g (zsetI (zsetI (zsetI (zsetI (zsetI (zsetR g m 11 (some (m + 6))) m 12 (nI l.length)) m 13 (nI t)) m 14 (nI 0)) m 15 (-nI 1)) m 7 (nI 0)) := (((((zM.rfl.setR').setI' ⟨rfl, by omega⟩).setI' ⟨rfl, by omega⟩).setI' ⟨rfl, by omega⟩).setI' ⟨rfl, by omega⟩).setI' ⟨rfl, by omega⟩
  refine ⟨hM, ⟨?_, by rw [hM.sh]; exact s6, t2, by omega, ?_, ?_, ht, fun j hj => ?_⟩, ?_, ?_, ?_⟩
  · show zgr (zsetR g m 11 (some (m + 6))) m 11 = _
    rw [gr_sR, if_pos ⟨rfl, rfl⟩]
  · simp only [gi_sI, true_and, Nat.reduceEqDiff, if_true, if_false]
  · simp only [gi_sI, true_and, Nat.reduceEqDiff, if_true, if_false]
  · rw [hM.gi (by omega)]; exact t3 j hj
  · simp only [gi_sI, true_and, Nat.reduceEqDiff, if_true, if_false]
  · simp only [gi_sI, true_and, Nat.reduceEqDiff, if_true, if_false]
  · simp only [gi_sI, true_and, Nat.reduceEqDiff, if_true, if_false]
theorem s_readRule {N : Nat} (hN : 10000 ≤ N) {g : ZS} {m : Nat} {l : List Nat} (hR : LR m (zh g)) (hT : RT g m l) : zW (f_X12_readRule N m g) (fun o => zM m (SB m) g o.2 ∧ zgi o.2 m 7 = nI 0 ∧ Out l (zgi o.2 m 15) (fun _ => True) ∧ (zgi o.2 m 15 = -nI 1 ∧ o.1 = nI 1 ∨ (∃ e, e ≤ 80 ∧ zgi o.2 m 15 = nI e) ∧ o.1 = nI 0)) := by
  have s0 := hR.s0
  obtain ⟨t1, t2, t3⟩ := id hT
  have h256 : ∀ p, l.getD p 0 < 256 := fun p => by
    by_cases e : p < l.length
    · exact (t3 p e).2
    · rw [getD_ge (by omega)]; omega
  unfold f_X12_readRule
  rw [p_vs s0, c_40]
  refine (s_beginText hR hT (by omega)).bind (fun g1 h1 => ?_)
  obtain ⟨hM1, hD1, a14, a15, a7⟩ := h1
  have s01 : zsh g1 m = some (12, 0) := by rw [hM1.sh]; exact s0
  rw [c_0, p_wrZ (v := nI 0) s01 (Or.inl rfl), Option.bind_some]
  have J2 : zJ (fun x j => x = m ∧ j = 20) g1 (zsetI g1 m 20 (nI 0)) := zJ.setI ⟨rfl, rfl⟩
  have hM2 : zM m (SB m) g (zsetI g1 m 20 (nI 0)) := hM1.setI' ⟨rfl, by omega⟩
  have b20 : zgi (zsetI g1 m 20 (nI 0)) m 20 = nI 0 := by rw [gi_sI, if_pos ⟨rfl, rfl⟩]
  obtain ⟨g2, hg2⟩ : ∃ x, x = zsetI g1 m 20 (nI 0) := ⟨_, rfl⟩
  rw [← hg2] at J2 hM2 b20 ⊢
  clear hg2
  have hD2 : RD g2 m (m + 6) 80 l 40 := hD1.J J2 (by omega) (by omega) (fun j => by omega)
  have b14 : zgi g2 m 14 = nI 0 := by rw [J2.gi (by omega)]; exact a14
  have b15 : zgi g2 m 15 = -nI 1 := by rw [J2.gi (by omega)]; exact a15
  have b7 : zgi g2 m 7 = nI 0 := by rw [J2.gi (by omega)]; exact a7
  have s02 : zsh g2 m = some (12, 0) := by rw [hM2.sh]; exact s0
  have b12 : zgi g2 m 12 = nI l.length := hD2.2.2.2.2.1
  rw [p_rdI s02, Option.bind_some, b12]
  by_cases h0 : l = []
  · subst h0
    rw [if_pos (show nI ([] : List Nat).length ≤ nI 0 from nI_le (Nat.le_refl _) (by omega))]
    unfold f_X12_readRule_24
    rw [p_vs s02, e_right1 s02 hD2 b14 (by omega) b15 (by simp), Option.bind_some]
    show zW (if vp_nar .boolean (nI 1) = nI 1 then some (nI 1, g2) else none) _
    rw [if_pos (show vp_nar .boolean (nI 1) = nI 1 from rfl), zW_some]
    exact ⟨hM2, b7, Or.inr (Or.inr ⟨[], ⟨by simp, h256, by simp, Or.inl ⟨rfl, rfl⟩⟩, b15, trivial⟩), Or.inl ⟨b15, rfl⟩⟩
  · have hl0 : 0 < l.length := List.length_pos_iff.mpr h0
    rw [if_neg (nI_ge hl0 (by omega)), p_vs s02]
    have r21 : zgr g2 m 21 = some (m + 11) := (hR.M hM2).r21
    have s11 : zsh g2 (m + 11) = some (20, 7) := (hR.M hM2).s11
    have hP : PG g2 m (m + 6) 80 l 40 (fun _ => nI 0) := ⟨s02, hD2, by omega, r21, s11, Or.inl ⟨b20, fun _ _ => rfl⟩⟩
    have hvl : (l.take 40).length = min 40 l.length := List.length_take
    have hpp := q_parse (N := N) hN 100 0 0 0 g2 (by omega) (by omega) (by omega) (by omega) hP b14 b15
    refine hpp.bind (fun o ho => ?_)
    obtain ⟨J, ho⟩ := ho
    have hP3 := hP.J J
    have s03 := hP3.1
    have hD3 := hP3.2.1
    have hM3 : zM m (SB m) g o.2 := hM2.trans ((J.toM (m := m)).mono (fun x j z => ⟨z.1, by omega⟩))
    have c7 : zgi o.2 m 7 = nI 0 := by rw [J.gi (by omega)]; exact b7
    unfold f_X12_readRule_24
    rw [p_vs s03]
    have hv : ∀ p, (l.take 40).getD p 0 < 256 := fun p => hD2.vis p
    rcases ho with ⟨w, p', code, a1, a2, a3, a4, a5, a6⟩ | ⟨e, b1, b2, b3⟩
    · have htop := simH_top a4 a5 hv a2
      by_cases hp : l.length ≤ p'
      · rw [e_right1 s03 hD3 a3 (by omega) w hp, Option.bind_some]
        show zW (if vp_nar .boolean (nI 1) = nI 1 then some (nI 1, o.2) else none) _
        rw [if_pos (show vp_nar .boolean (nI 1) = nI 1 from rfl), zW_some]
        refine ⟨hM3, c7, Or.inr (Or.inr ⟨code, ?_, w, trivial⟩), Or.inl ⟨w, rfl⟩⟩
        have hl40 : l.length ≤ 40 := by omega
        rw [take_all hl40] at htop
        rcases htop with ⟨_, c⟩ | ⟨c, _⟩
        · refine ⟨hl40, h256, ?_, Or.inr ⟨h0, c⟩⟩
          obtain ⟨M', m1, m2, m3, m4⟩ := c
          have hq : ∀ k M, Reach l M0 0 M k → k ≤ l.length → QI M k := by
            intro k
            induction k with
            | zero => intro M hM _; have : M = M0 := hM.det Reach.rfl; subst this; exact QI0
            | succ k ih =>
              intro M hM hk
              obtain ⟨M1, n1, n2⟩ := hM.split (Nat.zero_le k) (Nat.le_succ k)
              obtain ⟨M2, x1, x2, x3⟩ := n2.next (Nat.lt_succ_self k)
              have : M2 = M := (Reach.rfl.det x3 : M2 = M)
              subst this
              exact (ih M1 n1 (by omega)).step (h256 k) x2
          have hqq := (hq l.length M' m1 (Nat.le_refl _)).1
          obtain ⟨e1, e2, e3⟩ := rel_len (ρ := 0) (qw M') (qk M')
          rw [← m4]; omega
        · omega
      · rw [e_rightN s03 hD3 a3 w (by omega), Option.bind_some]
        show zW (if vp_nar .boolean (nI 0) = nI 0 then some (nI 0, zsetI o.2 m 15 (nI p')) else none) _
        rw [if_pos (show vp_nar .boolean (nI 0) = nI 0 from rfl), zW_some]
        have e15 : zgi (zsetI o.2 m 15 (nI p')) m 15 = nI p' := by rw [gi_sI, if_pos ⟨rfl, rfl⟩]
        refine ⟨hM3.setI' ⟨rfl, by omega⟩, by rw [gi_sI, if_neg (by omega)]; exact c7, ?_, Or.inr ⟨⟨p', by omega, e15⟩, rfl⟩⟩
        rw [e15]
        rcases htop with ⟨c1, c⟩ | ⟨c1, c⟩
        · exact Or.inr (Or.inl ⟨code, c, by omega, by congr 1; omega⟩)
        · exact Or.inl ⟨p', by omega, c, h0, rfl⟩
    · rw [e_right0 s03 b2 (by omega), Option.bind_some]
      show zW (if vp_nar .boolean (nI 0) = nI 0 then some (nI 0, o.2) else none) _
      rw [if_pos (show vp_nar .boolean (nI 0) = nI 0 from rfl), zW_some]
      exact ⟨hM3, c7, Or.inl ⟨e, by omega, b3 M0 pre0 rfl, h0, b2⟩, Or.inr ⟨⟨e, by omega, b2⟩, rfl⟩⟩
