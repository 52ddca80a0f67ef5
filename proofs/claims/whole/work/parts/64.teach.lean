/-! ===== teach ===== -/
section TE
variable {N x m c : Nat} {g g1 g2 g3 g' : ZS} {A : ZA}
/-- one bird has changed, and what was is remembered: the class -/
theorem c_fin1 {a p : Nat} {b : ZB} (hN : 10000 ≤ N) (hC : CI x g A) (hA : AI A c) (hp : p < an A) (hb : BI b) (J1 : zJ (Ss (x + 55)) g g1) (S1 : CS g1 (x + 55) (an A) (ad A) (ame A) (aB A)) (C1 : CJ x g1 A) (J2 : zJ (Sb (x + 23 + 2 + 5 * p)) g1 g2) (D2 : CB g2 (x + 23 + 2 + 5 * p) b) (ha : a < 1000000) : zW (zvs g2 x 11 <| (f_X11_remembered N x (nI a) g2).bind fun r6 => some (r6.1, r6.2)) (fun o => o.1 = nI a ∧ zX x (x + 581) g o.2 ∧ CI x o.2 (sX A (upB (aB A) p b) (ad A))) := by
  have n6 := hA.1.1
  refine w_vs (by rw [J2.sh]; exact C1.1.s0) ?_
  have J2' : zJ (fun a j => x + 25 ≤ a ∧ a < x + 55) g1 g2 := J2.mono (fun a j z => by have := z.1; have := z.2.1; omega)
  refine (c_remembered (d := ad A) (B := upB (aB A) p b) (g1 := g1) (g2 := g2) (l := aR A) hN ha C1 hA (upB_SI hA.1.2.2.1 hb) (by have := hA.1.2.2.2; omega) (J2'.mono (fun a j z => by omega)) ⟨C1.2.2.2.2.2.1.1.up J2 D2, fun q h1 h2 => (C1.2.2.2.2.2.1.2 q h1 h2).keepJ J2 (fun a j z y => by have := z.1; have := z.2.1; have := y.1; have := y.2.1; omega)⟩ (S1.keep n6 J2' (fun a j z => by have := z.1; have := z.2; omega)) ((hC.2.stay J1 (fun a j z => by have := z.1; have := z.2; omega)).stay J2' (fun a j z => by omega))).bind (fun o ho => ?_)
  obtain ⟨o1, o2, o3, o4⟩ := ho
  exact zW_some.mpr ⟨o1, ((J1.toX (fun a j z => by have := z.1; have := z.2; omega)).trans (J2'.toX (fun a j z => by omega))).trans o2, o3, o4⟩
/-- the same in the reference -/
theorem r_fin1 {p : Nat} {b : ZB} (hA : AI A c) (hp : p < an A) (J0 : zM m (ScM m) g' g1) (hR1 : RI m g1 A) (J2 : zJ (fun x j => x = m + 15 ∨ x = m ∧ j = 26) g1 g2) (R2 : RJ m g2 (sU A (pU (aU A) (aB A, ad A)))) (J3 : zJ (Sp (m + 1) (36 * p)) g2 g3) (D3 : RB g3 (m + 1) (36 * p) b) : zX m (m + 33) g' g3 ∧ RI m g3 (sX A (upB (aB A) p b) (ad A)) := by
  have n6 := hA.1.1
  have J3' : zJ (fun a _ => a = m + 1) g2 g3 := J3.mono (fun a j z => z.1)
  have hB2 := R2.2.2.2.2.2.2.1.2.2
  exact ⟨((J0.toX (fun a j z => scm_in z) (by omega)).trans (J2.toX (fun a j z => by omega))).trans (J3'.toX (fun a j z => by omega)), R2.setS hA.past ((J3'.toM (m := m)).mono (fun a j z => by omega)) (hB2.up (by omega) J3 D3), (hR1.2.keepM (J2.toM (m := m)) (by omega) (fun j => by omega)).keepM (J3'.toM (m := m)) (by omega) (fun j => by omega)⟩
theorem tbW_p {b : ZB} {w n : Nat} : bT (tbW b w n) w = min 99 (bT b w + n) := uN_s
/-- the class teaches a bird of a scene -/
theorem s_feed {s n d p w : Nat} {me : Nat → Nat} {B : Nat → ZB} (hs : SL (zh g) s) (hc : CS g s n d me B) (hn : n ≤ 6) (hp : p < n) (hw : w < 8) (hI : BI (B p)) (hh : 0 < bO (B p) w) : zW (f_X11_feed s (nI p) (nI w) g) (fun o => o.1 = nI (min 99 (bT (B p) w + 1)) ∧ zJ (Sb (s + 2 + 5 * p)) g o.2 ∧ CB o.2 (s + 2 + 5 * p) (tbW (B p) w 1)) := by
  obtain ⟨a1, a2, a3, a4⟩ := hs.f
  obtain ⟨b1, b2⟩ := a4 p (by omega)
  have hb := (hc.2.2 p hp).1
  obtain ⟨q1, q2, q3, q4, q5⟩ := hb
  obtain ⟨k1, k2, k3, k4⟩ := q5 w hw
  have i1 := hI.2.2.2.2 w hw
  have i3 := hI.2.2.1
  obtain ⟨t1, t2, t3, t4, t5, t6, t7, t8, t9⟩ := b2.f
  unfold f_X11_feed
  refine w_vs a1 (w_eq (e_isIn a1 hc.1 (by omega)) ?_)
  rw [if_neg (bI_ne (rb_nI hp (by omega))), e_iw11, Option.bind_some, if_neg (bI_ne (rb_nI hw (by omega)))]
  refine w_rdR a1 a3 ?_
  rw [a25_6 a2 (by omega), b1, Option.bind_some]
  refine w_rdR t1 t6 ?_
  rw [a20_8 t2 hw, Option.bind_some, k1, if_neg (fun h => by rw [c_0, nI_eq (by omega) (by omega)] at h; omega)]
  refine w_rdR t1 t9 (w_rdR t1 t9 ?_)
  rw [a20_8 t5 hw, Option.bind_some, k4, c_1, nI_add, c_99, mn, Option.bind_some]
  have hm : (if nI (bT (B p) w + 1) < nI 99 then nI (bT (B p) w + 1) else nI 99) = nI (min 99 (bT (B p) w + 1)) := by
    by_cases e : bT (B p) w + 1 < 99
    · rw [if_pos (nI_lt e (by omega)), Nat.min_eq_right (by omega)]
    · rw [if_neg (nI_nlt (by omega) (by omega)), Nat.min_eq_left (by omega)]
  rw [hm, p_iast t5 hw (by decide), Option.bind_some]
  refine w_rdR (by exact t1) (by exact t9) ?_
  rw [a20_8 (by exact t5) hw, Option.bind_some, gi_sI, if_pos ⟨rfl, rfl⟩, zW_some]
  have J : zJ (fun a j => a = s + 2 + 5 * p + 4 ∧ j = w) g (zsetI g (s + 2 + 5 * p + 4) w (nI (min 99 (bT (B p) w + 1)))) := zJ.setI ⟨rfl, rfl⟩
  refine ⟨rfl, J.mono (fun a j z => ⟨by omega, by omega, by omega⟩), by rw [J.gi (by omega)]; exact q1, by rw [J.gi (by omega)]; exact q2, by rw [J.gi (by omega)]; exact q3, by rw [J.gi (by omega)]; exact q4, fun v hv => ?_⟩
  obtain ⟨v1, v2, v3, v4⟩ := q5 v hv
  refine ⟨by rw [J.gi (by omega)]; exact v1, by rw [J.gi (by omega)]; exact v2, by rw [J.gi (by omega)]; exact v3, ?_⟩
  show _ = nI (uN (bT (B p)) w (min 99 (bT (B p) w + 1)) v)
  unfold uN
  by_cases e : v = w
  · subst e; rw [gi_sI, if_pos ⟨rfl, rfl⟩, if_pos rfl]
  · rw [gi_sI, if_neg (by omega), if_neg e]; exact v4
theorem e_feed2 {s n d p w : Nat} {me : Nat → Nat} {B : Nat → ZB} (hs : SL (zh g) s) (hc : CS g s n d me B) (hn : n ≤ 6) (hp : p < n) (hw : w < 8) (hh : bO (B p) w = 0) : f_X11_feed s (nI p) (nI w) g = some (-2, g) := by
  obtain ⟨a1, a2, a3, a4⟩ := hs.f
  obtain ⟨b1, b2⟩ := a4 p (by omega)
  have k1 := ((hc.2.2 p hp).1.2.2.2.2 w hw).1
  rw [hh] at k1
  obtain ⟨t1, t2, t3, t4, t5, t6, t7, t8, t9⟩ := b2.f
  unfold f_X11_feed
  rw [p_vs a1, e_isIn a1 hc.1 (by omega), Option.bind_some, if_neg (bI_ne (rb_nI hp (by omega))), e_iw11, Option.bind_some, if_neg (bI_ne (rb_nI hw (by omega))), p_rdR a1, a3, Option.bind_some, a25_6 a2 (by omega), b1, Option.bind_some, p_rdR t1, t6, Option.bind_some, a20_8 t2 hw, Option.bind_some, k1, if_pos (show nI 0 = 0 from rfl)]
theorem e_feedN {s n : Nat} {v u : Int32} (hs : SL (zh g) s) (hc : zgi g s 1 = nI n) (hn : n ≤ 6) (h : ¬ (rb v 0 n = true ∧ rb u 0 8 = true)) : f_X11_feed s v u g = some (-1, g) := by
  unfold f_X11_feed f_X11_feed_15
  rw [p_vs hs.f.1, e_isIn hs.f.1 hc (by omega), Option.bind_some]
  cases hv : rb v 0 n with
  | false => rw [if_pos (bI_eq rfl)]
  | true => rw [if_neg (bI_ne rfl), e_iw11, Option.bind_some, if_pos (bI_eq (Bool.eq_false_iff.mpr (fun hu => h ⟨hv, hu⟩)))]
theorem e_refTN {a : Nat} {v u : Int32} (hR : RJ m g A) (hA : AI A c) (h : ¬ (rb v 0 (an A) = true ∧ rb u 0 8 = true)) : f_X12_refusesTeach m a v u g = some (-1) := by
  unfold f_X12_refusesTeach f_X12_refusesTeach_15
  rw [p_vs hR.1.s0, e_ip hR hA, Option.bind_some]
  cases hv : rb v 0 (an A) with
  | false => rw [if_pos (bI_eq rfl)]
  | true => rw [if_neg (bI_ne rfl), e_iw12, Option.bind_some, if_pos (bI_eq (Bool.eq_false_iff.mpr (fun hu => h ⟨hv, hu⟩)))]
theorem e_refTY {a p w : Nat} {b : ZB} (hR : RJ m g A) (hA : AI A c) (ha : zsh g a = some (20, 217)) (hp : p < an A) (hw : w < 8) (hb : RB g a (36 * p) b) (hI : BI b) : f_X12_refusesTeach m a (nI p) (nI w) g = if bO b w = 0 then some (-2) else some 0 := by
  have n6 := hA.1.1
  unfold f_X12_refusesTeach f_X12_refusesTeach_32
  rw [p_vs hR.1.s0, e_ip hR hA, Option.bind_some, if_neg (bI_ne (rb_nI hp (by omega))), e_iw12, Option.bind_some, if_neg (bI_ne (rb_nI hw (by omega))), e_hasHeard ha (by omega) hw hb hI, Option.bind_some]
  by_cases e : bO b w = 0
  · rw [if_pos e, if_pos (bI_eq (decide_eq_false (by omega)))]
  · rw [if_neg e, if_neg (bI_ne (decide_eq_true (by omega)))]
theorem k_teach (hN : 10000 ≤ N) (v u : Int32) : Call (fun x g => f_X11_teach N x v u g) (fun m g => f_X12_teach N m v u g) := call_s (fun x m c g A hC hA hc => by
  have n6 := hA.1.1
  have noC : ∀ a : Int32, a < 0 → (∀ g1, CJ x g1 A → f_X11_feed (x + 23) v u g1 = some (a, g1)) → Cc x A a g (f_X11_teach N x v u g) := by
    intro a ha hb
    unfold Cc f_X11_teach
    refine c_spare hN hC.1 hA (fun g1 J1 S1 C1 => ?_)
    refine w_rdR C1.1.s0 C1.1.r0_6 (w_eq (hb g1 C1) (w_vs C1.1.s0 (w_eq (e_remN ha) ?_)))
    exact c_refused hC J1 C1
  have noR : ∀ a : Int32, ¬ 0 ≤ a → (∀ g1, RJ m g1 A → f_X12_refusesTeach m (m + 1) v u g1 = some a) → ∀ g', RI m g' A → Rc m A a g' (f_X12_teach N m v u g') := by
    intro a ha hb g' hR
    unfold Rc f_X12_teach
    refine r_start hR hA (fun g1 J0 hR1 _ => ?_)
    refine w_rdR hR1.1.1.s0 hR1.1.1.r0 (w_vs hR1.1.1.s0 (w_eq (hb g1 hR1.1) ?_))
    rw [if_neg ha, zW_some]
    exact ⟨rfl, J0.toX (fun a j z => scm_in z) (by omega), hR1⟩
  by_cases hvu : rb v 0 (an A) = true ∧ rb u 0 8 = true
  · obtain ⟨hv, hu⟩ := hvu
    obtain ⟨p, -, hp, rfl⟩ := rb_t hv (by omega)
    obtain ⟨w, -, hw, rfl⟩ := rb_t hu (by omega)
    have hBp := hA.1.2.2.1 p hp
    by_cases e : bO (aB A p) w = 0
    · exact ⟨-2, A, hA.mono (Nat.le_succ c), noC (-2) (by decide) (fun g1 C1 => e_feed2 C1.1.SL23 C1.2.2.2.2.2.1.1 n6 hp hw e), noR (-2) (by decide) (fun g1 R1 => (e_refTY R1 hA R1.1.s1 hp hw (R1.2.2.2.2.2.2.1.2.2.2 p hp) hBp).trans (if_pos e))⟩
    · refine ⟨nI (min 99 (bT (aB A p) w + 1)), sX A (upB (aB A) p (tbW (aB A p) w 1)) (ad A), hA.setX (upB_SI hA.1.2.2.1 (tbW_BI hBp)) (by have := hA.1.2.2.2; omega), ?_, fun g' hR => ?_⟩
      · unfold Cc f_X11_teach
        refine c_spare hN hC.1 hA (fun g1 J1 S1 C1 => ?_)
        refine w_rdR C1.1.s0 C1.1.r0_6 ((s_feed C1.1.SL23 C1.2.2.2.2.2.1.1 n6 hp hw hBp (by omega)).bind (fun o ho => ?_))
        obtain ⟨o1, J2, D2⟩ := ho
        rw [o1]
        exact c_fin1 hN hC hA hp (tbW_BI hBp) J1 S1 C1 J2 D2 (by omega)
      · unfold Rc f_X12_teach
        refine r_start hR hA (fun g1 J0 hR1 _ => ?_)
        refine w_rdR hR1.1.1.s0 hR1.1.1.r0 (w_vs hR1.1.1.s0 (w_eq ((e_refTY hR1.1 hA hR1.1.1.s1 hp hw (hR1.1.2.2.2.2.2.2.1.2.2.2 p hp) hBp).trans (if_neg e)) ?_))
        rw [if_pos (by decide)]
        refine r_past hN hR1.1 hA (fun g2 J2 R2 => ?_)
        have hB2 := R2.2.2.2.2.2.2.1.2.2
        refine w_rdR R2.1.s0 R2.1.r0 ?_
        rw [c_1]
        refine (s_goTeach R2.1.s1 (by omega) hw (by omega) (hB2.2 p hp) hBp).bind (fun g3 h3 => ?_)
        obtain ⟨J3, D3⟩ := h3
        have k4 := (D3.2.2.2.2 w hw).2.2.2
        unfold f_X12_of
        refine w_rdR (by rw [J3.sh]; exact R2.1.s0) (by rw [J3.gr]; exact R2.1.r0) (w_eq rfl ?_)
        rw [c_36, c_28, nI_mul, nI_add, nI_add, a20_217 (by rw [J3.sh]; exact R2.1.s1) (by omega), k4, Option.bind_some, zW_some, tbW_p]
        exact ⟨rfl, r_fin1 hA hp J0 hR1 J2 R2 J3 D3⟩
  · exact ⟨-1, A, hA.mono (Nat.le_succ c), noC (-1) (by decide) (fun g1 C1 => e_feedN C1.1.SL23 C1.2.2.2.2.2.1.1.1 n6 hvu), noR (-1) (by decide) (fun g1 R1 => e_refTN R1 hA hvu)⟩)
end TE
