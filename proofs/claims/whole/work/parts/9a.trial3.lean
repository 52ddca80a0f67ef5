/-! ===== trial: one act ===== -/
def aS (A : ZA) (l : List Nat) (e : Nat) : Option ((Nat → ZB) × Nat) :=
  if l.getD e 0 = 100 then some (goB (aH A) (l.getD (e + 1) 0 - 48) (aB A) (ad A), ad A + (l.getD (e + 1) 0 - 48))
  else if l.getD e 0 = 107 then (if l.getD (e + 1) 0 - 48 < an A then some (upB (aB A) (l.getD (e + 1) 0 - 48) (ctB (aB A (l.getD (e + 1) 0 - 48))), ad A) else none)
  else if l.getD e 0 = 109 then (if l.getD (e + 1) 0 - 48 < an A ∧ aX l e < 4 ∧ bh (aB A (l.getD (e + 1) 0 - 48)) ≠ aX l e then some (upB (aB A) (l.getD (e + 1) 0 - 48) (mvB (aB A (l.getD (e + 1) 0 - 48)) (aX l e)), ad A) else none)
  else if l.getD e 0 = 115 then (if l.getD (e + 1) 0 - 48 < an A ∧ bc (aB A (l.getD (e + 1) 0 - 48)) = 0 ∧ bo (aB A (l.getD (e + 1) 0 - 48)) < (sayA A (aB A (l.getD (e + 1) 0 - 48)) (ame A (l.getD (e + 1) 0 - 48))).length then some (spB (aB A) (l.getD (e + 1) 0 - 48) ((sayA A (aB A (l.getD (e + 1) 0 - 48)) (ame A (l.getD (e + 1) 0 - 48))).getD (bo (aB A (l.getD (e + 1) 0 - 48))) 0) (an A), ad A) else none)
  else if l.getD e 0 = 116 then (if l.getD (e + 1) 0 - 48 < an A ∧ 0 < bO (aB A (l.getD (e + 1) 0 - 48)) (aX l e) then some (upB (aB A) (l.getD (e + 1) 0 - 48) (tbW (aB A (l.getD (e + 1) 0 - 48)) (aX l e) 1), ad A) else none)
  else some (mpB hsB (aB A) (an A), ad A)
theorem zc_y {γ : Type} {v k : Int32} {t d : Option γ} {cs : List (Int32 × Option γ)} (h : v = k) : zcase v ((k, t) :: cs) d = t := by
  unfold zcase
  rw [if_pos h]
theorem zc_n {γ : Type} {v k : Int32} {t d : Option γ} {cs : List (Int32 × Option γ)} (h : ¬ v = k) : zcase v ((k, t) :: cs) d = zcase v cs d := by
  conv => lhs; unfold zcase
  rw [if_neg h]
theorem zc_0 {γ : Type} {v : Int32} {d : Option γ} : zcase v [] d = d := rfl
abbrev SAc (x : Nat) : Nat → Nat → Prop := fun a j => SFc x (x + 480) a j ∨ x + 23 ≤ a ∧ a < x + 55
section TA
variable {N x m c : Nat} {g g' : ZS} {A : ZA} {l : List Nat}
/-- what an act of the class comes to -/
def CA (x : Nat) (g : ZS) (A : ZA) (s : Option ((Nat → ZB) × Nat)) (o : Int32 × ZS) : Prop := zJ (SAc x) g o.2 ∧ (∀ B d, s = some (B, d) → 0 ≤ o.1 ∧ CJ x o.2 (sS A B d)) ∧ (s = none → ¬ 0 ≤ o.1 ∧ CJ x o.2 A)
def RA (m : Nat) (g : ZS) (A : ZA) (s : Option ((Nat → ZB) × Nat)) (o : Int32 × ZS) : Prop := zM m (fun a j => SY m (m + 12) a j ∨ a = m + 1) g o.2 ∧ (∀ B d, s = some (B, d) → ¬ o.1 = 0 ∧ RJ m o.2 (sS A B d)) ∧ (s = none → o.1 = 0 ∧ RJ m o.2 A)
theorem CA.y {B : Nat → ZB} {d : Nat} {o : Int32 × ZS} (h1 : zJ (SAc x) g o.2) (h2 : 0 ≤ o.1) (h3 : CJ x o.2 (sS A B d)) : CA x g A (some (B, d)) o := ⟨h1, fun B' d' e => by cases e; exact ⟨h2, h3⟩, fun e => by cases e⟩
theorem CA.n {o : Int32 × ZS} (h1 : zJ (SAc x) g o.2) (h2 : ¬ 0 ≤ o.1) (h3 : CJ x o.2 A) : CA x g A none o := ⟨h1, fun B' d' e => (by cases e), fun _ => ⟨h2, h3⟩⟩
theorem RA.y {B : Nat → ZB} {d : Nat} {o : Int32 × ZS} (h1 : zM m (fun a j => SY m (m + 12) a j ∨ a = m + 1) g o.2) (h2 : ¬ o.1 = 0) (h3 : RJ m o.2 (sS A B d)) : RA m g A (some (B, d)) o := ⟨h1, fun B' d' e => by cases e; exact ⟨h2, h3⟩, fun e => by cases e⟩
theorem RA.n {o : Int32 × ZS} (h1 : zM m (fun a j => SY m (m + 12) a j ∨ a = m + 1) g o.2) (h2 : o.1 = 0) (h3 : RJ m o.2 A) : RA m g A none o := ⟨h1, fun B' d' e => (by cases e), fun _ => ⟨h2, h3⟩⟩
theorem c_cover {p : Nat} (hN : 10000 ≤ N) (C1 : CJ x g A) (hA : AI A c) (hp : p < an A) : zW (f_X11_cover N x (nI p) g) (fun o => 0 ≤ o.1 ∧ zJ (fun a j => x + 23 ≤ a ∧ a < x + 55) g o.2 ∧ CJ x o.2 (sS A (upB (aB A) p (ctB (aB A p))) (ad A))) := by
  have n6 := hA.1.1
  have hBp := hA.1.2.2.1 p hp
  have hc1 := hBp.2.1
  obtain ⟨B, hBd⟩ : ∃ B, B = upB (aB A) p (ctB (aB A p)) := ⟨_, rfl⟩
  rw [← hBd]
  have hSI : SI (an A) B := by rw [hBd]; exact upB_SI hA.1.2.2.1 (ctB_BI hBp)
  obtain ⟨j, hj, ej⟩ := clA64 (A := sS A B (ad A)) n6
  have hj7 := pc64 hj
  obtain ⟨b1, b2, b3, -⟩ := c_bird C1 hA hp
  obtain ⟨k, hk⟩ : ∃ k, k = 1 - bc (aB A p) := ⟨_, rfl⟩
  obtain ⟨g2, hg2⟩ : ∃ g2, g2 = zsetI g (x + 23 + 2 + 5 * p) 6 (nI k) := ⟨_, rfl⟩
  have J2 : zJ (fun a j => a = x + 23 + 2 + 5 * p ∧ j = 6) g g2 := by rw [hg2]; exact zJ.setI ⟨rfl, rfl⟩
  have D2 : CB g2 (x + 23 + 2 + 5 * p) (ctB (aB A p)) := by rw [hg2]; exact b3.cloth hk
  have D : CS g2 (x + 23) (an A) (ad A) (ame A) B ∧ ∀ q, an A ≤ q → q < 6 → CB g2 (x + 23 + 2 + 5 * q) b0 := ⟨by rw [hBd]; exact C1.2.2.2.2.2.1.1.up (J2.mono (fun a j z => by omega)) D2, fun q h1 h2 => (C1.2.2.2.2.2.1.2 q h1 h2).keepJ J2 (fun a j z y => by have := z.1; have := z.2.1; omega)⟩
  have C2 : CJ x g2 (sS A B (ad A)) := C1.setS hA (J2.mono (fun a j z => by omega)) D
  have A2 : AI (sS A B (ad A)) c := hA.setSd hSI hA.1.2.2.2
  have hcov : f_X11_cover N x (nI p) g = some (nI (pc j), g2) := by
    have last : zwrZ g (x + 23 + 2 + 5 * p) 0 6 (nI k) = some g2 → f_X11_cover_33 N x (x + 23 + 2 + 5 * p) (nI k) g = some (nI (pc j), g2) := by
      intro hw
      unfold f_X11_cover_33
      rw [hw, Option.bind_some, p_rdR C2.1.s0, C2.1.r0_6, Option.bind_some, p_vs C2.1.SL23.f.1, e_covered hN C2 A2, Option.bind_some, show clA (sS A B (ad A)) (an (sS A B (ad A))) = nI j from ej, e_bc64 hj, Option.bind_some]
    unfold f_X11_cover
    rw [p_vs C1.1.s0, e_ip11 C1 hA, Option.bind_some, if_neg (bI_ne (rb_nI hp (by omega))), p_rdR C1.1.s0, C1.1.r0_6, Option.bind_some, p_rdR C1.1.SL23.f.1, C1.1.SL23.f.2.2.1, Option.bind_some, a25_6 C1.1.SL23.f.2.1 (by omega), b1, Option.bind_some, p_rdI b2.f.1, Option.bind_some, b3.2.1]
    by_cases e : bc (aB A p) = 0
    · have hk1 : k = 1 := by omega
      subst hk1
      rw [e, if_pos (show nI 0 = 0 from rfl)]
      exact last (by rw [hg2]; exact p_wrZ1 b2.f.1)
    · have hk0 : k = 0 := by omega
      subst hk0
      rw [show bc (aB A p) = 1 by omega, if_neg (by decide)]
      exact last (by rw [hg2]; exact p_wrZ0 b2.f.1)
  exact zW.eq hcov ⟨nI_pos' (by omega), J2.mono (fun a j z => by omega), C2⟩
theorem c_actAt {e : Nat} (hN : 10000 ≤ N) (hC : CJ x g A) (hA : AI A c) (hT : XT g (x + 1) (x + 2) l) (hlt : e < l.length) (hg : gA l e = true) (hd : ad A ≤ 1000000) : zW (f_X11_actAt N x (nI e) g) (CA x g A (aS A l e)) := by
  have n6 := hA.1.1
  have h80 := hT.2.2.2.2.1
  obtain ⟨g1, g2, g3, g4⟩ := of_decide_eq_true hg
  have hL := hC.1
  unfold f_X11_actAt
  rw [c_1, c_2, nI_add, nI_add]
  refine w_rdR hL.s0 hL.r0_0 (w_vs hT.1 (w_eq (e_digitAt hT (by omega)) ?_))
  refine w_rdR hL.s0 hL.r0_0 (w_vs hT.1 (w_eq (e_at hT (by omega)) ?_))
  have hdig : 2 ≤ ta (l.getD e 0) → ∃ p, p ≤ 9 ∧ l.getD (e + 1) 0 - 48 = p ∧ dgv (l.getD (e + 1) 0) = nI p := fun h => by
    have := td_n (g3 h)
    exact ⟨l.getD (e + 1) 0 - 48, by omega, rfl, dgv_y this.2.2.1 this.2.2.2⟩
  have hCS := hC.2.2.2.2.2.1
  have keepb : ∀ (g' : ZS), zJ (fun a j => SFc x (x + 480) a j ∨ x + 23 + 2 ≤ a ∧ a < x + 23 + 2 + 5 * an A) g g' → ∀ q, an A ≤ q → q < 6 → CB g' (x + 23 + 2 + 5 * q) b0 := fun g' hJ q h1 h2 => (hCS.2 q h1 h2).keepJ hJ (fun a j z y => by have := z.1; have := z.2.1; omega)
  unfold aS
  rcases of_decide_eq_true g2 with h | h | h | h | h | h
  · -- days
    rw [h]
    rw [h] at hdig
    obtain ⟨p, hp9, hp, ep⟩ := hdig (by decide)
    rw [hp, ep, zc_y (show nI 100 = 100 from rfl), if_pos rfl]
    refine w_rdR hL.s0 hL.r0_6 (w_vs hL.s0 ?_)
    refine (s_passDays (k := p) hN hL.s0 hL.r0_2 (c_XHl hC) hC.2.2.1 hA.2.1.2 hL.SL23 hCS.1 hA.1.2.2.1 n6 (by omega) (by omega) (by omega)).bind (fun o ho => ?_)
    rw [zW_some]
    obtain ⟨o1, o2, o3⟩ := ho
    refine CA.y (o2.mono (fun a j z => Or.inr ⟨by have := z.1; omega, by have := z.2; omega⟩)) (by show 0 ≤ o.1; rw [o1]; exact nI_pos' (by omega)) (hC.setS hA (o2.mono (fun a j z => Or.inr ⟨by have := z.1; omega, by have := z.2; omega⟩)) ⟨o3, fun q h1 h2 => (hCS.2 q h1 h2).keepJ o2 (fun a j z y => by have := z.1; have := z.2.1; have := y.1; have := y.2; omega)⟩)
  · -- cloth
    rw [h]
    rw [h] at hdig
    obtain ⟨p, hp9, hp, ep⟩ := hdig (by decide)
    rw [hp, ep, zc_n (show ¬ nI 107 = 100 by decide), zc_y (show nI 107 = 107 from rfl), if_neg (by decide), if_pos rfl]
    refine w_vs hL.s0 ?_
    by_cases hpn : p < an A
    · rw [if_pos hpn]
      refine (c_cover hN hC hA hpn).bind (fun o ho => ?_)
      rw [zW_some]
      exact CA.y (ho.2.1.mono (fun a j z => Or.inr z)) ho.1 ho.2.2
    · rw [if_neg hpn]
      have hcov : f_X11_cover N x (nI p) g = some (-1, g) := by
        unfold f_X11_cover
        rw [p_vs hL.s0, e_ip11 hC hA, Option.bind_some, if_pos (bI_eq (by rw [rb_n (by omega)]; exact decide_eq_false (by omega)))]
      refine w_eq hcov ?_
      rw [zW_some]
      exact CA.n zJ.rfl (show ¬ (0 : Int32) ≤ -1 by decide) hC
  · -- move
    rw [h]
    rw [h] at hdig
    obtain ⟨p, hp9, hp, ep⟩ := hdig (by decide)
    have h4 := g4 (by rw [h]; rfl)
    unfold t2 at h4
    rw [if_neg (by omega)] at h4
    have h5 := td_n h4
    have hb : aX l e = l.getD (e + 2) 0 - 48 := by unfold aX; rw [if_neg (by omega)]
    rw [hp, ep, zc_n (show ¬ nI 109 = 100 by decide), zc_n (show ¬ nI 109 = 107 by decide), zc_y (show nI 109 = 109 from rfl), if_neg (by decide), if_neg (by decide), if_pos rfl, hb]
    refine w_rdR hL.s0 hL.r0_6 (w_rdR hL.s0 hL.r0_0 (w_vs hT.1 (w_eq (e_digitAt hT (by omega)) ?_)))
    rw [dgv_y h5.2.2.1 h5.2.2.2]
    have hb9 : l.getD (e + 2) 0 - 48 ≤ 9 := by omega
    generalize l.getD (e + 2) 0 - 48 = b at hb9
    by_cases hv : p < an A ∧ b < 4
    · rw [e_bringY hC hA hv.1 hv.2]
      by_cases hne : bh (aB A p) = b
      · rw [if_pos hne, Option.bind_some, zW_some, if_neg (fun h => h.2.2 hne)]
        exact CA.n zJ.rfl (show ¬ (0 : Int32) ≤ -2 by decide) hC
      · rw [if_neg hne, Option.bind_some, zW_some, if_pos ⟨hv.1, hv.2, hne⟩]
        have hp6 := hv.1
        have J5 : zJ (Sb (x + 23 + 2 + 5 * p)) g (zsetI g (x + 23 + 2 + 5 * p) 4 (nI b)) := zJ.setI ⟨by omega, by omega, by omega⟩
        have hbh := (hA.1.2.2.1 p hp6).1
        exact CA.y (J5.mono (fun a j z => Or.inr ⟨by have := z.1; omega, by have := z.2.1; omega⟩)) (nI_pos' (by omega)) (hC.setS hA (J5.mono (fun a j z => Or.inr ⟨by have := z.1; omega, by have := z.2.1; omega⟩)) ⟨hCS.1.up J5 (hCS.1.2.2 p hp6).1.move, fun q h1 h2 => (hCS.2 q h1 h2).keepJ J5 (fun a j z y => by have := z.1; have := z.2.1; have := y.1; have := y.2.1; omega)⟩)
    · rw [e_bringN hC hA (fun h => hv ⟨by rw [rb_n (by omega)] at h; exact (of_decide_eq_true h.1).2, by rw [rb_n (by omega), rb_n (by omega)] at h; exact (of_decide_eq_true h.2).2⟩), Option.bind_some, zW_some, if_neg (fun h => hv ⟨h.1, h.2.1⟩)]
      exact CA.n zJ.rfl (show ¬ (0 : Int32) ≤ -1 by decide) hC
  · -- speak
    rw [h]
    rw [h] at hdig
    obtain ⟨p, hp9, hp, ep⟩ := hdig (by decide)
    rw [hp, ep, zc_n (show ¬ nI 115 = 100 by decide), zc_n (show ¬ nI 115 = 107 by decide), zc_n (show ¬ nI 115 = 109 by decide), zc_y (show nI 115 = 115 from rfl), if_neg (by decide), if_neg (by decide), if_neg (by decide), if_pos rfl]
    refine w_rdR hL.s0 hL.r0_6 (w_vs hL.s0 ?_)
    by_cases hpn : p < an A
    · have hBp := hA.1.2.2.1 p hpn
      by_cases hcl : bc (aB A p) = 0
      · refine (s_utter hN hC hA (Or.inl rfl) hL.SL23 hCS.1 n6 hpn (hA.1.2.1 p hpn).2 hA.1.2.2.1 hcl rfl).bind (fun o ho => ?_)
        by_cases hb : bo (aB A p) < (sayA A (aB A p) (ame A p)).length
        · obtain ⟨o1, J2, D2⟩ := ho.1 hb
          have hw := (sayA_lt hb).1
          rw [zW_some, if_pos ⟨hpn, hcl, hb⟩]
          exact CA.y (J2.mono (fun a j z => by omega)) (by show 0 ≤ o.1; rw [o1]; exact nI_pos' (by omega)) (hC.setS hA (J2.mono (fun a j z => by omega)) ⟨D2, keepb _ J2⟩)
        · obtain ⟨o1, J2⟩ := ho.2 hb
          rw [zW_some, if_neg (fun h => hb h.2.2)]
          exact CA.n (J2.mono (fun a j z => Or.inl z)) (by show ¬ 0 ≤ o.1; rw [o1]; decide) (hC.keep hA J2 (fun a j z => by omega))
      · rw [e_utter2 hL.SL23 hCS.1 n6 hpn hBp hcl, Option.bind_some, zW_some, if_neg (fun h => hcl h.2.1)]
        exact CA.n zJ.rfl (show ¬ (0 : Int32) ≤ -2 by decide) hC
    · rw [e_utterN hL.SL23 hCS.1.1 n6 (by rw [rb_n (by omega)]; exact decide_eq_false (by omega)), Option.bind_some, zW_some, if_neg (fun h => hpn h.1)]
      exact CA.n zJ.rfl (show ¬ (0 : Int32) ≤ -1 by decide) hC
  · -- teach
    rw [h]
    rw [h] at hdig
    obtain ⟨p, hp9, hp, ep⟩ := hdig (by decide)
    have h4 := g4 (by rw [h]; rfl)
    unfold t2 at h4
    rw [if_pos h] at h4
    have h5 := tw_n h4
    have hb : aX l e = l.getD (e + 2) 0 - 97 := by unfold aX; rw [if_pos h]
    rw [hp, ep, zc_n (show ¬ nI 116 = 100 by decide), zc_n (show ¬ nI 116 = 107 by decide), zc_n (show ¬ nI 116 = 109 by decide), zc_n (show ¬ nI 116 = 115 by decide), zc_y (show nI 116 = 116 from rfl), if_neg (by decide), if_neg (by decide), if_neg (by decide), if_neg (by decide), if_pos rfl, hb]
    refine w_rdR hL.s0 hL.r0_6 (w_rdR hL.s0 hL.r0_0 (w_vs hT.1 (w_eq (e_wordAt hT (by omega)) ?_)))
    rw [show wdv (l.getD (e + 2) 0) = nI (l.getD (e + 2) 0 - 97) by unfold wdv lt8; rw [decide_eq_true ⟨h5.2.2.1, h5.2.2.2⟩, if_pos rfl]]
    have hb8 : l.getD (e + 2) 0 - 97 < 8 := by omega
    generalize l.getD (e + 2) 0 - 97 = b at hb8
    by_cases hpn : p < an A
    · have hBp := hA.1.2.2.1 p hpn
      by_cases hh : 0 < bO (aB A p) b
      · refine (s_feed hL.SL23 hCS.1 n6 hpn hb8 hBp hh).bind (fun o ho => ?_)
        obtain ⟨o1, J5, D5⟩ := ho
        rw [zW_some, if_pos ⟨hpn, hh⟩]
        exact CA.y (J5.mono (fun a j z => Or.inr ⟨by have := z.1; omega, by have := z.2.1; omega⟩)) (by show 0 ≤ o.1; rw [o1]; exact nI_pos' (by omega)) (hC.setS hA (J5.mono (fun a j z => Or.inr ⟨by have := z.1; omega, by have := z.2.1; omega⟩)) ⟨hCS.1.up J5 D5, fun q h1 h2 => (hCS.2 q h1 h2).keepJ J5 (fun a j z y => by have := z.1; have := z.2.1; have := y.1; have := y.2.1; omega)⟩)
      · rw [e_feed2 hL.SL23 hCS.1 n6 hpn hb8 (by omega), Option.bind_some, zW_some, if_neg (fun h => hh h.2)]
        exact CA.n zJ.rfl (show ¬ (0 : Int32) ≤ -2 by decide) hC
    · rw [e_feedN hL.SL23 hCS.1.1 n6 (fun h => hpn (by rw [rb_n (by omega)] at h; exact (of_decide_eq_true h.1).2)), Option.bind_some, zW_some, if_neg (fun h => hpn h.1)]
      exact CA.n zJ.rfl (show ¬ (0 : Int32) ≤ -1 by decide) hC
  · -- hush
    rw [h]
    rw [zc_n (show ¬ nI 120 = 100 by decide), zc_n (show ¬ nI 120 = 107 by decide), zc_n (show ¬ nI 120 = 109 by decide), zc_n (show ¬ nI 120 = 115 by decide), zc_n (show ¬ nI 120 = 116 by decide), zc_y (show nI 120 = 120 from rfl), if_neg (by decide), if_neg (by decide), if_neg (by decide), if_neg (by decide), if_neg (by decide)]
    obtain ⟨j, hj, ej⟩ := spA64 (A := A) n6
    have hj7 := pc64 hj
    refine w_vs hL.s0 ((c_silence hN hC hA hj ej).bind (fun o ho => ?_))
    obtain ⟨o1, J2, D2⟩ := ho
    rw [zW_some]
    exact CA.y (J2.mono (fun a j z => by omega)) (by show 0 ≤ o.1; rw [o1]; exact nI_pos' (by omega)) (hC.setS hA (J2.mono (fun a j z => by omega)) D2)
theorem r_act {e : Nat} {y z : Int32} (hN : 10000 ≤ N) (hR : RJ m g A) (hA : AI A c) (hg : gA l e = true) (hd : ad A ≤ 1000000) (hy : 2 ≤ ta (l.getD e 0) → y = nI (l.getD (e + 1) 0 - 48)) (hz : ta (l.getD e 0) = 3 → z = nI (aX l e)) : zW (f_X12_act N m (nI (l.getD e 0)) y z g) (RA m g A (aS A l e)) := by
  have n6 := hA.1.1
  obtain ⟨g1, g2, g3, g4⟩ := of_decide_eq_true hg
  have hL := hR.1
  have hRN := hR.2.2.2.2.2.2.1.2.2
  have hdig : 2 ≤ ta (l.getD e 0) → l.getD (e + 1) 0 - 48 ≤ 9 := fun h => by
    have := td_n (g3 h)
    omega
  unfold f_X12_act aS
  rcases of_decide_eq_true g2 with h | h | h | h | h | h
  · rw [h] at hy hz hdig ⊢
    have hp9 := hdig (by decide)
    rw [hy (by decide)]
    generalize l.getD (e + 1) 0 - 48 = p at hp9
    rw [zc_y (show nI 100 = 100 from rfl), if_pos rfl]
    refine w_rdR hL.s0 hL.r0 (w_vs hL.s0 ?_)
    refine (s_goDays (k := p) hN hL hL.s1 hR.2.2.2.2.1 hA.2.1.2 hR.2.2.2.2.2.2.1.1 hRN hA.1.2.2.1 n6 (by omega) (by omega) (by omega)).bind (fun g3 h3 => ?_)
    rw [zW_some]
    exact RA.y ((h3.1.toM (m := m)).mono (fun a j z => Or.inr z)) (show ¬ (1 : Int32) = 0 by decide) (hR.setS hA ((h3.1.toM (m := m)).mono (fun a j z => Or.inr z)) h3.2)
  · rw [h] at hy hz hdig ⊢
    have hp9 := hdig (by decide)
    rw [hy (by decide)]
    generalize l.getD (e + 1) 0 - 48 = p at hp9
    rw [zc_n (show ¬ nI 107 = 100 by decide), zc_y (show nI 107 = 107 from rfl), if_neg (by decide), if_pos rfl]
    refine w_vs hL.s0 (w_eq (e_ip hR hA) ?_)
    by_cases hpn : p < an A
    · have hc1 := (hA.1.2.2.1 p hpn).2.1
      rw [if_neg (bI_ne (rb_nI hpn (by omega))), if_pos hpn]
      unfold f_X12_of
      refine w_rdR hL.s0 hL.r0 (w_eq rfl ?_)
      refine w_rdR hL.s0 hL.r0 (w_eq rfl ?_)
      rw [c_36, c_1, nI_mul, nI_add, a20_217 hL.s1 (by omega), show zgi g (m + 1) (36 * p + 1) = nI (bc (aB A p)) from (hRN.2 p hpn).2.1, Option.bind_some, nI_sub hc1, w20_217 hL.s1 (by omega), Option.bind_some, zW_some]
      have J3 : zJ (fun a j => a = m + 1 ∧ j = 36 * p + 1) g (zsetI g (m + 1) (36 * p + 1) (nI (1 - bc (aB A p)))) := zJ.setI ⟨rfl, rfl⟩
      exact RA.y ((J3.toM (m := m)).mono (fun a j z => Or.inr z.1)) (show ¬ nI 1 = 0 by decide) (hR.setS hA ((J3.toM (m := m)).mono (fun a j z => Or.inr z.1)) (hRN.up (by omega) (J3.mono (fun a j z => by omega)) ((hRN.2 p hpn).cloth rfl)))
    · rw [if_pos (bI_eq (by rw [rb_n (by omega)]; exact decide_eq_false (by omega))), if_neg hpn, zW_some]
      exact RA.n zM.rfl rfl hR
  · rw [h] at hy hz hdig ⊢
    have hp9 := hdig (by decide)
    rw [hy (by decide), hz (by decide)]
    have hb9 : aX l e ≤ 9 := by
      have h4 := g4 (by rw [h]; rfl)
      unfold t2 at h4
      rw [if_neg (by omega)] at h4
      have := td_n h4
      unfold aX
      rw [if_neg (by omega)]; omega
    generalize l.getD (e + 1) 0 - 48 = p at hp9
    generalize aX l e = b at hb9
    rw [zc_n (show ¬ nI 109 = 100 by decide), zc_n (show ¬ nI 109 = 107 by decide), zc_y (show nI 109 = 109 from rfl), if_neg (by decide), if_neg (by decide), if_pos rfl]
    refine w_vs hL.s0 ?_
    by_cases hv : p < an A ∧ b < 4
    · rw [e_refMY hR hA hv.1 hv.2]
      by_cases hne : bh (aB A p) = b
      · rw [if_pos hne, Option.bind_some, if_neg (show ¬ (0 : Int32) ≤ -2 by decide), zW_some, if_neg (fun h => h.2.2 hne)]
        exact RA.n zM.rfl rfl hR
      · rw [if_neg hne, Option.bind_some, if_pos (show (0 : Int32) ≤ 0 by decide), if_pos ⟨hv.1, hv.2, hne⟩]
        unfold f_X12_of
        refine w_rdR hL.s0 hL.r0 (w_eq rfl ?_)
        rw [c_36, c_0, nI_mul, nI_add, w20_217 hL.s1 (by omega), Option.bind_some, zW_some]
        have J5 : zJ (Sp (m + 1) (36 * p)) g (zsetI g (m + 1) (36 * p + 0) (nI b)) := zJ.setI ⟨rfl, by omega, by omega⟩
        exact RA.y ((J5.toM (m := m)).mono (fun a j z => Or.inr z.1)) (show ¬ (1 : Int32) = 0 by decide) (hR.setS hA ((J5.toM (m := m)).mono (fun a j z => Or.inr z.1)) (hRN.up (by omega) J5 (hRN.2 p hv.1).move))
    · rw [e_refMN hR hA (fun h => hv ⟨by rw [rb_n (by omega)] at h; exact (of_decide_eq_true h.1).2, by rw [rb_n (by omega), rb_n (by omega)] at h; exact (of_decide_eq_true h.2).2⟩), Option.bind_some, if_neg (show ¬ (0 : Int32) ≤ -1 by decide), zW_some, if_neg (fun h => hv ⟨h.1, h.2.1⟩)]
      exact RA.n zM.rfl rfl hR
  · rw [h] at hy hz hdig ⊢
    have hp9 := hdig (by decide)
    rw [hy (by decide)]
    generalize l.getD (e + 1) 0 - 48 = p at hp9
    rw [zc_n (show ¬ nI 115 = 100 by decide), zc_n (show ¬ nI 115 = 107 by decide), zc_n (show ¬ nI 115 = 109 by decide), zc_y (show nI 115 = 115 from rfl), if_neg (by decide), if_neg (by decide), if_neg (by decide), if_pos rfl]
    refine w_rdR hL.s0 hL.r0 (w_vs hL.s0 ?_)
    by_cases hpn : p < an A
    · have hBp := hA.1.2.2.1 p hpn
      by_cases hcl : bc (aB A p) = 0
      · refine (r_refS hN hR hA (Or.inl rfl) hpn (hRN.2 p hpn) hBp hcl rfl).bind (fun o ho => ?_)
        obtain ⟨o1, J2⟩ := ho
        have R2 := hR.keep hA J2 (fun a j z => by omega)
        by_cases hb : bo (aB A p) < (sayA A (aB A p) (ame A p)).length
        · rw [o1, if_pos hb, if_pos (show (0 : Int32) ≤ 0 by decide), if_pos ⟨hpn, hcl, hb⟩]
          refine w_rdR R2.1.s0 R2.1.r0 (w_vs R2.1.s0 ((r_goSpeak hN R2 hA (Or.inl rfl) hpn R2.2.2.2.2.2.2.1.2.2 hA.1.2.2.1 rfl hb).bind (fun o4 h4 => ?_)))
          obtain ⟨q1, J4, D4⟩ := h4
          rw [zW_some]
          exact RA.y ((J2.mono (fun a j z => Or.inl z)).trans J4) (show ¬ (1 : Int32) = 0 by decide) (R2.setS hA (J4.mono (fun a j z => by omega)) D4)
        · rw [o1, if_neg hb, if_neg (show ¬ (0 : Int32) ≤ -3 by decide), zW_some, if_neg (fun h => hb h.2.2)]
          exact RA.n (J2.mono (fun a j z => Or.inl z)) rfl R2
      · rw [e_refS2 hR hA hL.s1 hpn (hRN.2 p hpn) (by have := hBp.2.1; omega), Option.bind_some]
        dsimp only
        rw [if_neg (show ¬ (0 : Int32) ≤ -2 by decide), zW_some, if_neg (fun h => hcl h.2.1)]
        exact RA.n zM.rfl rfl hR
    · rw [e_refSN hR hA (by rw [rb_n (by omega)]; exact decide_eq_false (by omega)), Option.bind_some]
      dsimp only
      rw [if_neg (show ¬ (0 : Int32) ≤ -1 by decide), zW_some, if_neg (fun h => hpn h.1)]
      exact RA.n zM.rfl rfl hR
  · rw [h] at hy hz hdig ⊢
    have hp9 := hdig (by decide)
    rw [hy (by decide), hz (by decide)]
    have hb8 : aX l e < 8 := by
      have h4 := g4 (by rw [h]; rfl)
      unfold t2 at h4
      rw [if_pos h] at h4
      have := tw_n h4
      unfold aX
      rw [if_pos h]; omega
    generalize l.getD (e + 1) 0 - 48 = p at hp9
    generalize aX l e = b at hb8
    rw [zc_n (show ¬ nI 116 = 100 by decide), zc_n (show ¬ nI 116 = 107 by decide), zc_n (show ¬ nI 116 = 109 by decide), zc_n (show ¬ nI 116 = 115 by decide), zc_y (show nI 116 = 116 from rfl), if_neg (by decide), if_neg (by decide), if_neg (by decide), if_neg (by decide), if_pos rfl]
    refine w_rdR hL.s0 hL.r0 (w_vs hL.s0 ?_)
    by_cases hpn : p < an A
    · have hBp := hA.1.2.2.1 p hpn
      rw [e_refTY hR hA hL.s1 hpn hb8 (hRN.2 p hpn) hBp]
      by_cases hh : bO (aB A p) b = 0
      · rw [if_pos hh, Option.bind_some, if_neg (show ¬ (0 : Int32) ≤ -2 by decide), zW_some, if_neg (fun h => by omega)]
        exact RA.n zM.rfl rfl hR
      · rw [if_neg hh, Option.bind_some, if_pos (show (0 : Int32) ≤ 0 by decide), if_pos ⟨hpn, by omega⟩]
        refine w_rdR hL.s0 hL.r0 ?_
        rw [c_1]
        refine (s_goTeach (n := 1) hL.s1 (by omega) hb8 (by omega) (hRN.2 p hpn) hBp).bind (fun g5 h5 => ?_)
        rw [zW_some]
        exact RA.y ((h5.1.toM (m := m)).mono (fun a j z => Or.inr z.1)) (show ¬ nI 1 = 0 by decide) (hR.setS hA ((h5.1.toM (m := m)).mono (fun a j z => Or.inr z.1)) (hRN.up (by omega) h5.1 h5.2))
    · rw [e_refTN hR hA (fun h => hpn (by rw [rb_n (by omega)] at h; exact (of_decide_eq_true h.1).2)), Option.bind_some, if_neg (show ¬ (0 : Int32) ≤ -1 by decide), zW_some, if_neg (fun h => hpn h.1)]
      exact RA.n zM.rfl rfl hR
  · rw [h]
    rw [zc_n (show ¬ nI 120 = 100 by decide), zc_n (show ¬ nI 120 = 107 by decide), zc_n (show ¬ nI 120 = 109 by decide), zc_n (show ¬ nI 120 = 115 by decide), zc_n (show ¬ nI 120 = 116 by decide), zc_0, if_neg (by decide), if_neg (by decide), if_neg (by decide), if_neg (by decide), if_neg (by decide)]
    refine w_vs hL.s0 ((r_goHush hN hR hA).bind (fun g3 h3 => ?_))
    rw [zW_some]
    exact RA.y ((h3.1.toM (m := m)).mono (fun a j z => Or.inr z)) (show ¬ (1 : Int32) = 0 by decide) (hR.setS hA ((h3.1.toM (m := m)).mono (fun a j z => Or.inr z)) h3.2)
end TA
