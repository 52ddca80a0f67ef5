/-! ===== speak ===== -/
def skB (b : ZB) : ZB := (bh b, bc b, bn b, bo b + 1, bO b, bF b, bL b, bT b)
theorem skB_BI {b : ZB} (hb : BI b) (h : bo b < 8) : BI (skB b) := ⟨hb.1, hb.2.1, hb.2.2.1, h, hb.2.2.2.2⟩
/-- p speaks w, and the birds before the i-th have heard it -/
def spB (B : Nat → ZB) (p w i : Nat) : Nat → ZB := fun q => if q = p then skB (B p) else if q < i ∧ bc (B q) = 0 ∧ bh (B q) = bh (B p) then pTake (B q) w else B q
theorem spB_zero {B : Nat → ZB} {p w : Nat} : spB B p w 0 = upB B p (skB (B p)) := funext (fun q => by
  unfold spB upB
  by_cases e : q = p
  · rw [if_pos e, if_pos e]
  · rw [if_neg e, if_neg e, if_neg (by omega)])
theorem spB_p {B : Nat → ZB} {p w i : Nat} : spB B p w i p = skB (B p) := if_pos rfl
theorem spB_i {B : Nat → ZB} {p w i : Nat} (h : i ≠ p) : spB B p w i i = B i := by
  unfold spB; rw [if_neg h, if_neg (by omega)]
theorem spB_yes {B : Nat → ZB} {p w i : Nat} (h : i ≠ p) (h1 : bc (B i) = 0) (h2 : bh (B i) = bh (B p)) : spB B p w (i + 1) = upB (spB B p w i) i (pTake (B i) w) := funext (fun q => by
  unfold upB
  by_cases e : q = i
  · subst e; rw [if_pos rfl]; unfold spB; rw [if_neg h, if_pos ⟨by omega, h1, h2⟩]
  · rw [if_neg e]; unfold spB
    by_cases e' : q = p
    · rw [if_pos e', if_pos e']
    · rw [if_neg e', if_neg e']
      by_cases e2 : q < i
      · by_cases e3 : bc (B q) = 0 ∧ bh (B q) = bh (B p)
        · rw [if_pos ⟨by omega, e3⟩, if_pos ⟨e2, e3⟩]
        · rw [if_neg (fun h => e3 h.2), if_neg (fun h => e3 h.2)]
      · rw [if_neg (by omega), if_neg (by omega)])
theorem spB_no {B : Nat → ZB} {p w i : Nat} (h : i = p ∨ bc (B i) ≠ 0 ∨ bh (B i) ≠ bh (B p)) : spB B p w (i + 1) = spB B p w i := funext (fun q => by
  unfold spB
  by_cases e' : q = p
  · rw [if_pos e', if_pos e']
  · rw [if_neg e', if_neg e']
    by_cases e : q = i
    · subst e; rw [if_neg (by omega), if_neg (by omega)]
    · by_cases e2 : q < i
      · by_cases e3 : bc (B q) = 0 ∧ bh (B q) = bh (B p)
        · rw [if_pos ⟨by omega, e3⟩, if_pos ⟨e2, e3⟩]
        · rw [if_neg (fun h => e3 h.2), if_neg (fun h => e3 h.2)]
      · rw [if_neg (by omega), if_neg (by omega)])
theorem spB_SI {B : Nat → ZB} {p w i n : Nat} (hI : SI n B) (hp : p < n) (h8 : bo (B p) < 8) : SI n (spB B p w i) := fun q hq => by
  unfold spB
  split
  · exact skB_BI (hI p hp) h8
  · split
    · exact pTake_BI (hI q hq)
    · exact hI q hq
section SK
variable {N x m c : Nat} {g g1 g2 g3 g' : ZS} {A : ZA}
theorem CB.speak {q k : Nat} {b : ZB} (hb : CB g q b) (hk : k = bo b + 1) : CB (zsetI g q 8 (nI k)) q (skB b) := by
  have J : zJ (fun a j => a = q ∧ j = 8) g (zsetI g q 8 (nI k)) := zJ.setI ⟨rfl, rfl⟩
  obtain ⟨q1, q2, q3, q4, q5⟩ := hb
  refine ⟨by rw [J.gi (by omega)]; exact q1, by rw [J.gi (by omega)]; exact q2, by rw [J.gi (by omega)]; exact q3, by rw [gi_sI, if_pos ⟨rfl, rfl⟩, hk]; rfl, fun y hy => ?_⟩
  obtain ⟨y1, y2, y3, y4⟩ := q5 y hy
  exact ⟨by rw [J.gi (by omega)]; exact y1, by rw [J.gi (by omega)]; exact y2, by rw [J.gi (by omega)]; exact y3, by rw [J.gi (by omega)]; exact y4⟩
theorem RB.speak {a o k : Nat} {b : ZB} (hb : RB g a o b) (hk : k = bo b + 1) : RB (zsetI g a (o + 3) (nI k)) a o (skB b) := by
  have J : zJ (fun x j => x = a ∧ j = o + 3) g (zsetI g a (o + 3) (nI k)) := zJ.setI ⟨rfl, rfl⟩
  obtain ⟨q1, q2, q3, q4, q5⟩ := hb
  refine ⟨by rw [J.gi (by omega)]; exact q1, by rw [J.gi (by omega)]; exact q2, by rw [J.gi (by omega)]; exact q3, by rw [gi_sI, if_pos ⟨rfl, rfl⟩, hk]; rfl, fun y hy => ?_⟩
  obtain ⟨y1, y2, y3, y4⟩ := q5 y hy
  exact ⟨by rw [J.gi (by omega)]; exact y1, by rw [J.gi (by omega)]; exact y2, by rw [J.gi (by omega)]; exact y3, by rw [J.gi (by omega)]; exact y4⟩
abbrev SU (x s n : Nat) : Nat → Nat → Prop := fun a j => SFc x (x + 480) a j ∨ s + 2 ≤ a ∧ a < s + 2 + 5 * n
theorem e_utterN {s n : Nat} {v : Int32} (hs : SL (zh g) s) (hc : zgi g s 1 = nI n) (hn : n ≤ 6) (h : rb v 0 n = false) : f_X11_utter N x s v g = some (-1, g) := by
  unfold f_X11_utter
  rw [p_vs hs.f.1, e_isIn hs.f.1 hc (by omega), Option.bind_some, if_pos (bI_eq h)]
theorem e_utter2 {s n d p : Nat} {me : Nat → Nat} {B : Nat → ZB} (hs : SL (zh g) s) (hc : CS g s n d me B) (hn : n ≤ 6) (hp : p < n) (hI : BI (B p)) (h : bc (B p) ≠ 0) : f_X11_utter N x s (nI p) g = some (-2, g) := by
  obtain ⟨a1, a2, a3, a4⟩ := hs.f
  obtain ⟨b1, b2⟩ := a4 p (by omega)
  have k1 := (hc.2.2 p hp).1.2.1
  have i1 := hI.2.1
  unfold f_X11_utter
  rw [p_vs a1, e_isIn a1 hc.1 (by omega), Option.bind_some, if_neg (bI_ne (rb_nI hp (by omega))), p_rdR a1, a3, Option.bind_some, a25_6 a2 (by omega), b1, Option.bind_some, p_rdI b2.f.1, Option.bind_some, k1, if_neg (fun h' => by rw [c_0, nI_eq (by omega) (by omega)] at h'; omega)]
theorem s_utter {s n d p : Nat} {B : Nat → ZB} (hN : 10000 ≤ N) (hC : CJ x g A) (hA : AI A c) (hsx : s = x + 23 ∨ s = x + 55) (hs : SL (zh g) s) (hc : CS g s n d (ame A) B) (hn : n ≤ 6) (hp : p < n) (hme : ame A p ≤ 8) (hI : SI n B) (h0 : bc (B p) = 0) {l : List Nat} (hl : sayA A (B p) (ame A p) = l) : zW (f_X11_utter N x s (nI p) g) (fun o => (bo (B p) < l.length → o.1 = nI (l.getD (bo (B p)) 0) ∧ zJ (SU x s n) g o.2 ∧ CS o.2 s n d (ame A) (spB B p (l.getD (bo (B p)) 0) n)) ∧ (¬ bo (B p) < l.length → o.1 = -3 ∧ zJ (SFc x (x + 480)) g o.2)) := by
  obtain ⟨a1, a2, a3, a4⟩ := hs.f
  obtain ⟨b1, b2⟩ := a4 p (by omega)
  obtain ⟨hb, hbm⟩ := hc.2.2 p hp
  have hBp := hI p hp
  have k1 := hb.2.1
  rw [h0] at k1
  obtain ⟨r, e1, e2, e3, e4, e5⟩ := c_rule (c := c) hC
  have hL := hC.1
  have hlen : l.length ≤ 8 := by rw [← hl]; exact says_len
  have hlt : ∀ j, j < l.length → l.getD j 0 < 8 := fun j hj => by rw [← hl] at hj ⊢; exact (sayA_lt hj).1
  have hbo := hBp.2.2.2.1
  unfold f_X11_utter
  refine w_vs a1 (w_eq (e_isIn a1 hc.1 (by omega)) ?_)
  rw [if_neg (bI_ne (rb_nI hp (by omega)))]
  refine w_rdR a1 a3 ?_
  rw [a25_6 a2 (by omega), b1, Option.bind_some]
  refine w_rdI b2.f.1 k1 ?_
  rw [if_pos (show nI 0 = 0 from rfl)]
  refine w_rdR hL.s0 hL.r0_12 (w_rdR hL.s0 e1 (w_rdR hL.s0 hL.r0_3 (w_vs hL.TL480.f.1 ?_)))
  refine (c_follow hN hC hA e1 (Or.inl rfl) b2 hb hBp hbm hme (by omega)).bind (fun g8 h8 => ?_)
  obtain ⟨J8, T8⟩ := h8
  rw [hl] at T8
  have C8 : CJ x g8 A := hC.keep hA J8 (fun a j z => by omega)
  have c8 : CS g8 s n d (ame A) B := hc.keep hn J8 (fun a j z => by have := z.1; have := z.2; omega)
  have b8 := (c8.2.2 p hp).1
  have s8 : zsh g8 (s + 2 + 5 * p) = some (0, 0) := by rw [J8.sh]; exact b2.f.1
  refine w_rdR C8.1.s0 C8.1.r0_12 (w_rdI s8 b8.2.2.2.1 (w_vs C8.1.TL480.f.1 (w_eq (e_tat C8.1.TL480 T8 (by omega)) ?_)))
  by_cases h : bo (B p) < l.length
  · have hw := hlt _ h
    obtain ⟨w, hwd⟩ : ∃ w, w = l.getD (bo (B p)) 0 := ⟨_, rfl⟩
    rw [← hwd] at hw ⊢
    rw [if_pos h, if_neg (fun h' => by rw [c_1, ng_eq (by omega) (by omega)] at h'; omega)]
    refine w_rdI s8 b8.2.2.2.1 ?_
    rw [c_1, nI_add, p_wrI s8, Option.bind_some, c_0]
    have J9 : zJ (fun a j => a = s + 2 + 5 * p ∧ j = 8) g8 (zsetI g8 (s + 2 + 5 * p) 8 (nI (bo (B p) + 1))) := zJ.setI ⟨rfl, rfl⟩
    refine zW_forI (fun i g' => zJ (SU x s n) g g' ∧ CS g' s n d (ame A) (spB B p w i)) n (fun i g' hi hI' => ?_) (fun g' hI' => ?_) (by omega) (Nat.zero_le _) ⟨(J8.mono (fun a j z => Or.inl z)).trans (J9.mono (fun a j z => Or.inr ⟨by omega, by omega⟩)), by rw [spB_zero]; exact c8.up (J9.mono (fun a j z => ⟨by omega, by omega, by omega⟩)) (b8.speak rfl)⟩
    · obtain ⟨J10, D10⟩ := hI'
      obtain ⟨p1, p2⟩ := a4 i (by omega)
      have si : zsh g' (s + 2 + 5 * i) = some (0, 0) := by rw [J10.sh]; exact p2.f.1
      have sp : zsh g' (s + 2 + 5 * p) = some (0, 0) := by rw [J10.sh]; exact b2.f.1
      have hBi := hI i hi
      show zW (f_X11_utter_78 N s (nI p) (s + 2 + 5 * p) (nI w) (nI i) g') _
      unfold f_X11_utter_78
      refine w_rdI (by rw [J10.sh]; exact a1) D10.1 ?_
      rw [if_neg (nI_ge hi (by omega))]
      refine w_rdR (by rw [J10.sh]; exact a1) (by rw [J10.gr]; exact a3) ?_
      rw [a25_6 (by rw [J10.sh]; exact a2) (by omega), show zgr g' (s + 1) i = some (s + 2 + 5 * i) by rw [J10.gr]; exact p1, Option.bind_some]
      have stay : i = p ∨ bc (B i) ≠ 0 ∨ bh (B i) ≠ bh (B p) → zW (f_X11_utter_129 N s (nI p) (s + 2 + 5 * p) (nI w) (nI i) g') (zI (fun (t : Int32 × ZS) => t.1 = nI (i + 1) ∧ zJ (SU x s n) g t.2 ∧ CS t.2 s n d (ame A) (spB B p w (i + 1))) (fun (o : Int32 × ZS) => (bo (B p) < l.length → o.1 = nI w ∧ zJ (SU x s n) g o.2 ∧ CS o.2 s n d (ame A) (spB B p w n)) ∧ (¬ bo (B p) < l.length → o.1 = -3 ∧ zJ (SFc x (x + 480)) g o.2))) := fun hno => by
        unfold f_X11_utter_129
        rw [zW_some, zI_inl, c_1, nI_add, spB_no hno]
        exact ⟨rfl, J10, D10⟩
      by_cases e : i = p
      · rw [if_pos (by rw [e])]; exact stay (Or.inl e)
      · have di := (D10.2.2 i hi).1
        rw [spB_i e] at di
        have dp := (D10.2.2 p hp).1
        rw [spB_p] at dp
        have dph : zgi g' (s + 2 + 5 * p) 4 = nI (bh (B p)) := dp.1
        have i1 := hBi.1
        have i2 := hBi.2.1
        have i3 := hBp.1
        rw [if_neg (fun h => e ((nI_eq (by omega) (by omega)).mp h))]
        refine w_rdI si di.2.1 ?_
        by_cases ec : bc (B i) = 0
        · rw [if_pos (by rw [ec]; rfl)]
          refine w_rdI si di.1 (w_rdI sp dph ?_)
          by_cases eh : bh (B i) = bh (B p)
          · rw [if_pos (by rw [eh])]
            refine w_vs si ((s_take (by rw [J10.1]; exact p2) di hBi hw).bind (fun g12 h12 => ?_))
            obtain ⟨J12, D12⟩ := h12
            unfold f_X11_utter_129
            rw [zW_some, zI_inl, c_1, nI_add, spB_yes e ec eh]
            exact ⟨rfl, J10.trans (J12.mono (fun a j z => Or.inr ⟨by have := z.1; omega, by have := z.2.1; omega⟩)), D10.up J12 D12⟩
          · rw [if_neg (fun h => eh ((nI_eq (by omega) (by omega)).mp h))]
            exact stay (Or.inr (Or.inr eh))
        · rw [if_neg (fun h => ec (by rw [c_0, nI_eq (by omega) (by omega)] at h; exact h))]
          exact stay (Or.inr (Or.inl ec))
    · obtain ⟨J10, D10⟩ := hI'
      show zW (f_X11_utter_78 N s (nI p) (s + 2 + 5 * p) (nI w) (nI n) g') _
      unfold f_X11_utter_78
      refine w_rdI (by rw [J10.sh]; exact a1) D10.1 ?_
      rw [if_pos (nI_le (Nat.le_refl _) (by omega)), Option.map_some, zW_some, zI_inr]
      exact ⟨fun _ => ⟨rfl, J10, D10⟩, fun h' => absurd h h'⟩
  · rw [if_neg h, if_pos (show -nI 1 = -1 from rfl), zW_some]
    exact ⟨fun h' => absurd h' h, fun _ => ⟨rfl, J8⟩⟩
theorem e_refSN {a : Nat} {v : Int32} (hR : RJ m g A) (hA : AI A c) (h : rb v 0 (an A) = false) : f_X12_refusesSpeak N m a v g = some (-1, g) := by
  unfold f_X12_refusesSpeak
  rw [p_vs hR.1.s0, e_ip hR hA, Option.bind_some, if_pos (bI_eq h)]
theorem e_refS2 {a p : Nat} {b : ZB} (hR : RJ m g A) (hA : AI A c) (ha : zsh g a = some (20, 217)) (hp : p < an A) (hb : RB g a (36 * p) b) (h : bc b = 1) : f_X12_refusesSpeak N m a (nI p) g = some (-2, g) := by
  have n6 := hA.1.1
  have eb := hb.2.1
  unfold f_X12_refusesSpeak f_X12_of
  rw [p_vs hR.1.s0, e_ip hR hA, Option.bind_some, if_neg (bI_ne (rb_nI hp (by omega))), Option.bind_some, c_36, c_1, nI_mul, nI_add, a20_217 ha (by omega), eb, Option.bind_some, h, if_pos rfl]
theorem r_refS {a p : Nat} {b : ZB} (hN : 10000 ≤ N) (hR : RJ m g A) (hA : AI A c) (ha : a = m + 1 ∨ a = m + 17) (hp : p < an A) (hb : RB g a (36 * p) b) (hI : BI b) (h : bc b = 0) {l : List Nat} (hl : sayA A b (ame A p) = l) : zW (f_X12_refusesSpeak N m a (nI p) g) (fun o => o.1 = (if bo b < l.length then 0 else -3) ∧ zM m (SY m (m + 12)) g o.2) := by
  have n6 := hA.1.1
  have hsa : zsh g a = some (20, 217) := by
    rcases ha with rfl | rfl
    · exact hR.1.s1
    · exact hR.1.s17
  have hlen : l.length ≤ 8 := by rw [← hl]; exact says_len
  have hbo := hI.2.2.2.1
  unfold f_X12_refusesSpeak f_X12_refusesSpeak_50 f_X12_of
  refine w_vs hR.1.s0 (w_eq (e_ip hR hA) ?_)
  rw [if_neg (bI_ne (rb_nI hp (by omega)))]
  refine w_eq rfl ?_
  rw [c_36, c_1, nI_mul, nI_add, a20_217 hsa (by omega), hb.2.1, Option.bind_some, h, if_neg (by decide)]
  refine w_eq rfl ?_
  rw [c_3, nI_add, a20_217 hsa (by omega), hb.2.2.2.1, Option.bind_some]
  refine w_rdR hR.1.s0 hR.1.r22 (w_vs hR.1.s0 ((r_says hN hR hA ha (Or.inl rfl) hp hb hI).bind (fun o ho => ?_)))
  obtain ⟨o1, o2, -⟩ := ho
  rw [hl] at o1
  rw [o1]
  by_cases e : bo b < l.length
  · rw [if_pos (nI_lt e (by omega)), if_pos e, zW_some]; exact ⟨rfl, o2⟩
  · rw [if_neg (nI_nlt (by omega) (by omega)), if_neg e, zW_some]; exact ⟨rfl, o2⟩
abbrev SG (m a : Nat) : Nat → Nat → Prop := fun x j => SY m (m + 12) x j ∨ x = a
theorem r_goSpeak {a p d : Nat} {B : Nat → ZB} (hN : 10000 ≤ N) (hR : RJ m g A) (hA : AI A c) (ha : a = m + 1 ∨ a = m + 17) (hp : p < an A) (hB : RN g a (an A) d B) (hI : SI (an A) B) {l : List Nat} (hl : sayA A (B p) (ame A p) = l) (hlt : bo (B p) < l.length) : zW (f_X12_goSpeak N m a (nI p) g) (fun o => o.1 = nI (l.getD (bo (B p)) 0) ∧ zM m (SG m a) g o.2 ∧ RN o.2 a (an A) d (spB B p (l.getD (bo (B p)) 0) (an A))) := by
  have n6 := hA.1.1
  have hBp := hI p hp
  have hb := hB.2 p hp
  have hsa : zsh g a = some (20, 217) := by
    rcases ha with rfl | rfl
    · exact hR.1.s1
    · exact hR.1.s17
  have hlen : l.length ≤ 8 := by rw [← hl]; exact says_len
  have hw : l.getD (bo (B p)) 0 < 8 := by rw [← hl] at hlt ⊢; exact (sayA_lt hlt).1
  unfold f_X12_goSpeak f_X12_of
  refine w_rdR hR.1.s0 hR.1.r22 (w_vs hR.1.s0 ((r_says hN hR hA ha (Or.inl rfl) hp hb hBp).bind (fun o ho => ?_)))
  obtain ⟨y, g2⟩ := o
  obtain ⟨-, J2, T2⟩ := ho
  dsimp only at J2 T2 ⊢
  rw [hl] at T2
  have tw := T2 _ hlt
  obtain ⟨w, hwd⟩ : ∃ w, w = l.getD (bo (B p)) 0 := ⟨_, rfl⟩
  rw [← hwd] at tw hw ⊢
  have s0 : zsh g2 m = some (12, 0) := by rw [J2.sh]; exact hR.1.s0
  have sa : zsh g2 a = some (20, 217) := by rw [J2.sh]; exact hsa
  have D2 : RN g2 a (an A) d B := hB.keepM n6 J2 (fun j _ => by omega)
  have b2 := D2.2 p hp
  refine w_rdR s0 (by rw [J2.gr (by omega)]; exact hR.1.r22) (w_eq rfl ?_)
  rw [c_36, c_3, nI_mul, nI_add, a20_217 sa (by omega), b2.2.2.2.1, Option.bind_some, a20_8 (by rw [J2.sh]; exact hR.1.s12) (by omega), tw, Option.bind_some, Option.bind_some, a20_217 sa (by omega), b2.2.2.2.1, Option.bind_some, c_1, nI_add, w20_217 sa (by omega), Option.bind_some, c_0]
  have J3 : zJ (fun x j => x = a ∧ j = 36 * p + 3) g2 (zsetI g2 a (36 * p + 3) (nI (bo (B p) + 1))) := zJ.setI ⟨rfl, rfl⟩
  refine zW_forI (fun i g' => zM m (SG m a) g g' ∧ RN g' a (an A) d (spB B p w i)) (an A) (fun i g' hi hI' => ?_) (fun g' hI' => ?_) (by omega) (Nat.zero_le _) ⟨(J2.mono (fun a j z => Or.inl z)).trans ((J3.toM (m := m)).mono (fun a j z => Or.inr z.1)), by rw [spB_zero]; exact D2.up (by omega) (J3.mono (fun a j z => ⟨z.1, by omega, by omega⟩)) (b2.speak rfl)⟩
  · obtain ⟨J10, D10⟩ := hI'
    have hBi := hI i hi
    have s10 : zsh g' a = some (20, 217) := by rw [J10.sh]; exact hsa
    show zW (f_X12_goSpeak_38 N m a (nI p) (nI w) (nI i) g') _
    unfold f_X12_goSpeak_38 f_X12_of
    refine w_rdI (by rw [J10.sh]; exact hR.1.s0) (show zgi g' m 1 = nI (an A) by rw [J10.gi (by omega)]; exact hR.2.2.2.2.2.2.1.1) ?_
    rw [if_neg (nI_ge hi (by omega))]
    have stay : i = p ∨ bc (B i) ≠ 0 ∨ bh (B i) ≠ bh (B p) → zW (f_X12_goSpeak_89 N m a (nI p) (nI w) (nI i) g') (zI (fun (t : Int32 × ZS) => t.1 = nI (i + 1) ∧ zM m (SG m a) g t.2 ∧ RN t.2 a (an A) d (spB B p w (i + 1))) (fun (o : Int32 × ZS) => o.1 = nI w ∧ zM m (SG m a) g o.2 ∧ RN o.2 a (an A) d (spB B p w (an A)))) := fun hno => by
      unfold f_X12_goSpeak_89
      rw [zW_some, zI_inl, c_1, nI_add, spB_no hno]
      exact ⟨rfl, J10, D10⟩
    by_cases e : i = p
    · rw [if_pos (by rw [e])]; exact stay (Or.inl e)
    · have di := D10.2 i hi
      rw [spB_i e] at di
      have dp := D10.2 p hp
      rw [spB_p] at dp
      have dph : zgi g' a (36 * p + 0) = nI (bh (B p)) := dp.1
      have dih : zgi g' a (36 * i + 0) = nI (bh (B i)) := di.1
      have i1 := hBi.1
      have i2 := hBi.2.1
      have i3 := hBp.1
      rw [if_neg (fun h => e ((nI_eq (by omega) (by omega)).mp h))]
      refine w_eq rfl ?_
      rw [c_36, c_1, nI_mul, nI_add, a20_217 s10 (by omega), di.2.1, Option.bind_some]
      by_cases ec : bc (B i) = 0
      · rw [if_pos (by rw [ec]; rfl)]
        refine w_eq rfl ?_
        rw [c_0, nI_add, a20_217 s10 (by omega), dih, Option.bind_some]
        refine w_eq rfl ?_
        rw [nI_mul, nI_add, a20_217 s10 (by omega), dph, Option.bind_some]
        by_cases eh : bh (B i) = bh (B p)
        · rw [if_pos (by rw [eh])]
          refine (s_hears s10 (by omega) hw di hBi).bind (fun g12 h12 => ?_)
          obtain ⟨J12, D12⟩ := h12
          unfold f_X12_goSpeak_89
          rw [zW_some, zI_inl, c_1, nI_add, spB_yes e ec eh]
          exact ⟨rfl, J10.trans ((J12.toM (m := m)).mono (fun a j z => Or.inr z.1)), D10.up (by omega) J12 D12⟩
        · rw [if_neg (fun h => eh ((nI_eq (by omega) (by omega)).mp h))]
          exact stay (Or.inr (Or.inr eh))
      · rw [if_neg (fun h => ec (by rw [c_0, nI_eq (by omega) (by omega)] at h; exact h))]
        exact stay (Or.inr (Or.inl ec))
  · obtain ⟨J10, D10⟩ := hI'
    show zW (f_X12_goSpeak_38 N m a (nI p) (nI w) (nI (an A)) g') _
    unfold f_X12_goSpeak_38
    refine w_rdI (by rw [J10.sh]; exact hR.1.s0) (show zgi g' m 1 = nI (an A) by rw [J10.gi (by omega)]; exact hR.2.2.2.2.2.2.1.1) ?_
    rw [if_pos (nI_le (Nat.le_refl _) (by omega)), Option.map_some, zW_some, zI_inr]
    exact ⟨rfl, J10, D10⟩
theorem k_speak (hN : 10000 ≤ N) (v : Int32) : Call (fun x g => f_X11_speak N x v g) (fun m g => f_X12_speak N m v g) := call_s (fun x m c g A hC hA hc => by
  have n6 := hA.1.1
  have noC : ∀ a : Int32, a < 0 → (∀ g1, CJ x g1 A → zW (f_X11_utter N x (x + 23) v g1) (fun o => o.1 = a ∧ zJ (SFc x (x + 480)) g1 o.2)) → Cc x A a g (f_X11_speak N x v g) := by
    intro a ha hb
    unfold Cc f_X11_speak
    refine c_spare hN hC.1 hA (fun g1 J1 S1 C1 => ?_)
    refine w_rdR C1.1.s0 C1.1.r0_6 (w_vs C1.1.s0 ((hb g1 C1).bind (fun o ho => ?_)))
    obtain ⟨o1, J2⟩ := ho
    refine w_vs (by rw [J2.sh]; exact C1.1.s0) (w_eq (e_remN (by rw [o1]; exact ha)) ?_)
    rw [zW_some]
    exact ⟨o1, (J1.toX (fun a j z => by have := z.1; have := z.2; omega)).trans (J2.toX (fun a j z => by omega)), C1.keep hA J2 (fun a j z => by omega), (hC.2.stay J1 (fun a j z => by have := z.1; have := z.2; omega)).stay J2 (fun a j z => by omega)⟩
  have noR : ∀ a : Int32, ¬ 0 ≤ a → (∀ g1, RJ m g1 A → zW (f_X12_refusesSpeak N m (m + 1) v g1) (fun o => o.1 = a ∧ zM m (SY m (m + 12)) g1 o.2)) → ∀ g', RI m g' A → Rc m A a g' (f_X12_speak N m v g') := by
    intro a ha hb g' hR
    unfold Rc f_X12_speak
    refine r_start hR hA (fun g1 J0 hR1 _ => ?_)
    refine w_rdR hR1.1.1.s0 hR1.1.1.r0 (w_vs hR1.1.1.s0 ((hb g1 hR1.1).bind (fun o ho => ?_)))
    obtain ⟨o1, J2⟩ := ho
    rw [if_neg (by rw [o1]; exact ha), zW_some]
    exact ⟨o1, (J0.toX (fun a j z => scm_in z) (by omega)).trans (J2.toX (fun a j z => by omega) (by omega)), hR1.1.keep hA J2 (fun a j z => by omega), hR1.2.keepM J2 (by omega) (fun j => by omega)⟩
  cases hv : rb v 0 (an A) with
  | false => exact ⟨-1, A, hA.mono (Nat.le_succ c), noC (-1) (by decide) (fun g1 C1 => zW.eq (e_utterN C1.1.SL23 C1.2.2.2.2.2.1.1.1 n6 hv) ⟨rfl, zJ.rfl⟩), noR (-1) (by decide) (fun g1 R1 => zW.eq (e_refSN R1 hA hv) ⟨rfl, zM.rfl⟩)⟩
  | true =>
    obtain ⟨p, -, hp, rfl⟩ := rb_t hv (by omega)
    have hBp := hA.1.2.2.1 p hp
    have me8 := (hA.1.2.1 p hp).2
    have hc1 := hBp.2.1
    by_cases hcl : bc (aB A p) = 0
    · obtain ⟨l, hl⟩ : ∃ l, sayA A (aB A p) (ame A p) = l := ⟨_, rfl⟩
      have hlen : l.length ≤ 8 := by rw [← hl]; exact says_len
      by_cases h : bo (aB A p) < l.length
      · have hw : l.getD (bo (aB A p)) 0 < 8 := by rw [← hl] at h ⊢; exact (sayA_lt h).1
        have hSI : SI (an A) (spB (aB A) p (l.getD (bo (aB A p)) 0) (an A)) := spB_SI hA.1.2.2.1 hp (by omega)
        have hdc : ad A ≤ 300 * (c + 1) := by have := hA.1.2.2.2; omega
        refine ⟨nI (l.getD (bo (aB A p)) 0), sX A (spB (aB A) p (l.getD (bo (aB A p)) 0) (an A)) (ad A), hA.setX hSI hdc, ?_, fun g' hR => ?_⟩
        · unfold Cc f_X11_speak
          refine c_spare hN hC.1 hA (fun g1 J1 S1 C1 => ?_)
          refine w_rdR C1.1.s0 C1.1.r0_6 (w_vs C1.1.s0 ((s_utter hN C1 hA (Or.inl rfl) C1.1.SL23 C1.2.2.2.2.2.1.1 n6 hp me8 hA.1.2.2.1 hcl hl).bind (fun o ho => ?_)))
          obtain ⟨o1, J2, D2⟩ := ho.1 h
          rw [o1]
          refine w_vs (by rw [J2.sh]; exact C1.1.s0) ?_
          refine (c_remembered (d := ad A) (l := aR A) hN (by omega) C1 hA hSI hdc (J2.mono (fun a j z => by omega)) ⟨D2, fun q h1 h2 => (C1.2.2.2.2.2.1.2 q h1 h2).keepJ J2 (fun a j z y => by have := z.1; have := z.2.1; omega)⟩ (S1.keep n6 J2 (fun a j z => by have := z.1; have := z.2; omega)) ((hC.2.stay J1 (fun a j z => by have := z.1; have := z.2; omega)).stay J2 (fun a j z => by omega))).bind (fun o ho => ?_)
          obtain ⟨p1, p2, p3, p4⟩ := ho
          exact zW_some.mpr ⟨p1, ((J1.toX (fun a j z => by have := z.1; have := z.2; omega)).trans (J2.toX (fun a j z => by omega))).trans p2, p3, p4⟩
        · unfold Rc f_X12_speak
          refine r_start hR hA (fun g1 J0 hR1 _ => ?_)
          refine w_rdR hR1.1.1.s0 hR1.1.1.r0 (w_vs hR1.1.1.s0 ((r_refS hN hR1.1 hA (Or.inl rfl) hp (hR1.1.2.2.2.2.2.2.1.2.2.2 p hp) hBp hcl hl).bind (fun o ho => ?_)))
          obtain ⟨o1, J2⟩ := ho
          rw [o1, if_pos h, if_pos (by decide)]
          have R2 : RJ m o.2 A := hR1.1.keep hA J2 (fun a j z => by omega)
          refine r_past hN R2 hA (fun g3 J3 R3 => ?_)
          refine w_rdR R3.1.s0 R3.1.r0 (w_vs R3.1.s0 ((r_goSpeak hN R3 hA.past (Or.inl rfl) hp R3.2.2.2.2.2.2.1.2.2 hA.1.2.2.1 hl h).bind (fun o4 h4 => ?_)))
          obtain ⟨q1, J4, D4⟩ := h4
          rw [zW_some]
          exact ⟨q1, (((J0.toX (fun a j z => scm_in z) (by omega)).trans (J2.toX (fun a j z => by omega) (by omega))).trans (J3.toX (fun a j z => by omega))).trans (J4.toX (fun a j z => by omega) (by omega)), R3.setS hA.past (J4.mono (fun a j z => by omega)) D4, ((hR1.2.keepM J2 (by omega) (fun j => by omega)).keepM (J3.toM (m := m)) (by omega) (fun j => by omega)).keepM J4 (by omega) (fun j => by omega)⟩
      · exact ⟨-3, A, hA.mono (Nat.le_succ c), noC (-3) (by decide) (fun g1 C1 => (s_utter hN C1 hA (Or.inl rfl) C1.1.SL23 C1.2.2.2.2.2.1.1 n6 hp me8 hA.1.2.2.1 hcl hl).mono (fun o ho => ho.2 h)), noR (-3) (by decide) (fun g1 R1 => (r_refS hN R1 hA (Or.inl rfl) hp (R1.2.2.2.2.2.2.1.2.2.2 p hp) hBp hcl hl).mono (fun o ho => ⟨by rw [ho.1, if_neg h], ho.2⟩))⟩
    · exact ⟨-2, A, hA.mono (Nat.le_succ c), noC (-2) (by decide) (fun g1 C1 => zW.eq (e_utter2 C1.1.SL23 C1.2.2.2.2.2.1.1 n6 hp hBp hcl) ⟨rfl, zJ.rfl⟩), noR (-2) (by decide) (fun g1 R1 => zW.eq (e_refS2 R1 hA R1.1.s1 hp (R1.2.2.2.2.2.2.1.2.2.2 p hp) (by omega)) ⟨rfl, zM.rfl⟩)⟩)
end SK
