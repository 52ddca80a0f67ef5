/-! ===== years: draws ===== -/
def nxC (r : Int32) : Int32 := (r * (1103515245 : Int32)) + (12345 : Int32)
def dvC (r : Int32) : Nat := r.toUInt32.toNat / 65536
theorem e_dv {r : Int32} : (r.toUInt32 >>> ((16 : Int32).toUInt32 &&& Int32.toUInt32 31)).toInt32 = nI (dvC r) ∧ dvC r < 65536 := by
  have hlt : r.toUInt32.toNat < 2 ^ 32 := r.toUInt32.toNat_lt
  have hd : dvC r < 65536 := by unfold dvC; omega
  refine ⟨?_, hd⟩
  rw [show ((16 : Int32).toUInt32 &&& Int32.toUInt32 31) = (16 : UInt32) by decide]
  refine Int32.toBitVec_inj.mp (BitVec.eq_of_toNat_eq ?_)
  show (r.toUInt32 >>> (16 : UInt32)).toNat = (BitVec.ofNat 32 (dvC r)).toNat
  rw [BitVec.toNat_ofNat, Nat.mod_eq_of_lt (by omega), UInt32.toNat_shiftRight]
  show r.toUInt32.toNat >>> (16 % 32) = _
  rw [Nat.shiftRight_eq_div_pow]
  rfl
abbrev YS : Type := Int32 × (Nat → ZB) × Nat
def ySp (A : ZA) (r : Int32) (B : Nat → ZB) (d p : Nat) : YS × Bool := if bc (B p) = 0 ∧ bo (B p) < (sayA A (B p) (ame A p)).length then ((r, spB B p ((sayA A (B p) (ame A p)).getD (bo (B p)) 0) (an A), d), true) else ((r, B, d), false)
def yTe (r : Int32) (B : Nat → ZB) (d p w : Nat) : YS × Bool := if 0 < bO (B p) w then ((r, upB B p (tbW (B p) w 1), d), false) else ((r, B, d), false)
def yAc (nx : Int32 → Int32) (dv : Int32 → Nat) (A : ZA) (r1 : Int32) (B : Nat → ZB) (d : Nat) : YS × Bool := if dv r1 % 5 = 2 then ySp A (nx r1) B d (dv (nx r1) % an A) else if dv r1 % 5 = 3 then ((nx (nx r1), upB B (dv (nx r1) % an A) (mvB (B (dv (nx r1) % an A)) (dv (nx (nx r1)) % 4)), d), false) else yTe (nx (nx r1)) B d (dv (nx r1) % an A) (dv (nx (nx r1)) % 8)
def yS (nx : Int32 → Int32) (dv : Int32 → Nat) (A : ZA) (s : YS) : YS × Bool := if dv (nx s.1) % 5 < 2 then ((nx s.1, goB (aH A) 1 s.2.1 s.2.2, s.2.2 + 1), false) else if an A = 0 then ((nx s.1, s.2.1, s.2.2), false) else yAc nx dv A (nx s.1) s.2.1 s.2.2
def yF (nx : Int32 → Int32) (dv : Int32 → Nat) (A : ZA) (r : Int32) : Nat → YS × Nat
  | 0 => ((r, aB A, ad A), 0)
  | k + 1 => ((yS nx dv A (yF nx dv A r k).1).1, (yF nx dv A r k).2 + (if (yS nx dv A (yF nx dv A r k).1).2 = true then 1 else 0))
theorem tbW_BI' {b : ZB} {w n : Nat} (hb : BI b) : BI (tbW b w n) := by
  refine ⟨hb.1, hb.2.1, hb.2.2.1, hb.2.2.2.1, fun v hv => ?_⟩
  obtain ⟨k1, k2, k3, k4⟩ := hb.2.2.2.2 v hv
  refine ⟨k1, k2, k3, ?_⟩
  show uN (bT b) w (min 99 (bT b w + n)) v ≤ 99
  unfold uN
  split
  · omega
  · exact k4
theorem yS_inv {nx : Int32 → Int32} {dv : Int32 → Nat} {A : ZA} {c : Nat} {s : YS} (hA : AI A c) (h : SI (an A) s.2.1) : SI (an A) (yS nx dv A s).1.2.1 ∧ (yS nx dv A s).1.2.2 ≤ s.2.2 + 1 := by
  unfold yS
  split
  · exact ⟨goB_SI h 1, Nat.le_refl _⟩
  · split
    · exact ⟨h, Nat.le_succ _⟩
    · rename_i h0
      have hp : dv (nx (nx s.1)) % an A < an A := Nat.mod_lt _ (by omega)
      unfold yAc
      split
      · unfold ySp
        split
        · rename_i hs
          have h8 : (sayA A (s.2.1 (dv (nx (nx s.1)) % an A)) (ame A (dv (nx (nx s.1)) % an A))).length ≤ 8 := says_len
          exact ⟨spB_SI h hp (by omega), Nat.le_succ _⟩
        · exact ⟨h, Nat.le_succ _⟩
      · split
        · exact ⟨upB_SI h (mvB_BI (h _ hp) (Nat.mod_lt _ (by omega))), Nat.le_succ _⟩
        · unfold yTe
          split
          · exact ⟨upB_SI h (tbW_BI' (h _ hp)), Nat.le_succ _⟩
          · exact ⟨h, Nat.le_succ _⟩
theorem yF_inv {nx : Int32 → Int32} {dv : Int32 → Nat} {A : ZA} {c : Nat} {r : Int32} (hA : AI A c) : ∀ k, SI (an A) (yF nx dv A r k).1.2.1 ∧ (yF nx dv A r k).1.2.2 ≤ ad A + k ∧ (yF nx dv A r k).2 ≤ k
  | 0 => ⟨hA.1.2.2.1, Nat.le_refl _, Nat.le_refl _⟩
  | k + 1 => by
    obtain ⟨h1, h2, h3⟩ := yF_inv (r := r) hA k
    obtain ⟨h4, h5⟩ := yS_inv hA h1
    refine ⟨h4, by show (yS nx dv A (yF nx dv A r k).1).1.2.2 ≤ _; omega, ?_⟩
    show (yF nx dv A r k).2 + (if (yS nx dv A (yF nx dv A r k).1).2 = true then 1 else 0) ≤ k + 1
    split <;> omega
section YE
variable {nx : Int32 → Int32} {dv : Int32 → Nat} {N x m c q : Nat} {g g1 g2 g' : ZS} {A : ZA} {β : Type} {Q : β → Prop} {r : Int32}
theorem zX.step {S : Nat → Nat → Prop} {lo hi : Nat} (h : zX lo hi g g1) (hJ : zJ S g1 g2) (hS : ∀ a j, S a j → (lo ≤ a ∧ a < hi) ∨ zsz g ≤ a) : zX lo hi g g2 := ⟨by rw [hJ.sz]; exact h.1, fun a ha ho => by
  obtain ⟨a1, a2⟩ := h.2 a ha ho
  refine ⟨by rw [hJ.sh]; exact a1, fun j => ?_⟩
  have hn : ¬ S a j := fun z => by have := hS a j z; omega
  exact ⟨(hJ.gi hn).trans (a2 j).1, (hJ.gl hn).trans (a2 j).2.1, by rw [hJ.gr]; exact (a2 j).2.2⟩⟩
theorem CI.out (h : CI x g A) (hA : AI A c) (hJ : zJ (fun a _ => a = q) g g') (hq : x + 581 ≤ q) : CI x g' A := h.inn hA (fun a _ _ => by rw [hJ.sh]) (fun a j _ _ => hJ.gi (by omega)) (fun a j _ _ => hJ.gl (by omega)) (fun a j _ _ => by rw [hJ.gr])
theorem c_next {k : Nat} {K : Int32 × ZS → Option β} (hnx : nx = nxC) (hdv : dv = dvC) (hs : zsh g q = some (1, 0)) (hr : zgi g q 0 = r) (hk : 1 ≤ k) (hk2 : k < 1000) (h : ∀ g', zJ (fun a _ => a = q) g g' → zgi g' q 0 = nx r → zW (K (nI (dv (nx r) % k), g')) Q) : zW (zvs g q 1 <| (f_X1_next q (nI k) g).bind K) Q := by
  obtain ⟨e1, e2⟩ := e_dv (r := nx r)
  rw [← hdv] at e1 e2
  refine w_vs hs ?_
  unfold f_X1_next f_X1_next_32
  rw [p_rdI hs, Option.bind_some, hr, p_wrI hs, Option.bind_some, if_neg (show ¬ nI k ≤ 0 from nI_ge (show 0 < k by omega) (by omega)), p_rdI (by exact hs), Option.bind_some, if_neg (nI_ne0 (by omega) (by omega)), gi_sI, if_pos ⟨rfl, rfl⟩]
  rw [show (r * (1103515245 : Int32)) + (12345 : Int32) = nx r from by rw [hnx]; rfl, e1, nI_rem (by omega) (by omega), Option.bind_some]
  exact h _ (zJ.setI rfl) (by rw [gi_sI, if_pos ⟨rfl, rfl⟩])
theorem r_next {k : Nat} {K : Int32 × ZS → Option β} (hnx : nx = nxC) (hdv : dv = dvC) (hs : zsh g m = some (12, 0)) (hr : zgi g m 43 = r) (hk : 1 ≤ k) (hk2 : k < 1000) (h : ∀ g', zJ (fun a j => a = m ∧ j = 43) g g' → zgi g' m 43 = nx r → zW (K (nI (dv (nx r) % k), g')) Q) : zW (zvs g m 12 <| (f_X12_draw m (nI k) g).bind K) Q := by
  obtain ⟨e1, e2⟩ := e_dv (r := nx r)
  rw [← hdv] at e1 e2
  refine w_vs hs ?_
  unfold f_X12_draw
  rw [p_rdI hs, Option.bind_some, hr, p_wrI hs, Option.bind_some, p_rdI (by exact hs), Option.bind_some, if_neg (nI_ne0 (by omega) (by omega)), gi_sI, if_pos ⟨rfl, rfl⟩]
  rw [show (r * (1103515245 : Int32)) + (12345 : Int32) = nx r from by rw [hnx]; rfl, e1, nI_rem (by omega) (by omega), Option.bind_some]
  exact h _ (zJ.setI ⟨rfl, rfl⟩) (by rw [gi_sI, if_pos ⟨rfl, rfl⟩])
theorem e_bringS {s n d p h : Nat} {me : Nat → Nat} {B : Nat → ZB} (hs : SL (zh g) s) (hc : CS g s n d me B) (hn : n ≤ 6) (hp : p < n) (hh : h < 4) (hI : BI (B p)) : f_X11_bring s (nI p) (nI h) g = if bh (B p) = h then some (-2, g) else some (nI (bh (B p)), zsetI g (s + 2 + 5 * p) 4 (nI h)) := by
  obtain ⟨a1, a2, a3, a4⟩ := hs.f
  obtain ⟨b1, b2⟩ := a4 p (by omega)
  have b3 := (hc.2.2 p hp).1
  have b5 := hI.1
  unfold f_X11_bring
  rw [p_vs a1, e_isIn a1 hc.1 (by omega), Option.bind_some, if_neg (bI_ne (rb_nI hp (by omega))), e_ih11, Option.bind_some, if_neg (bI_ne (rb_nI hh (by omega))), p_rdR a1, a3, Option.bind_some, a25_6 a2 (by omega), b1, Option.bind_some, p_rdI b2.f.1, Option.bind_some, b3.1]
  by_cases e : bh (B p) = h
  · rw [e, if_pos rfl, if_pos rfl]
  · rw [if_neg e, if_neg (fun h => e ((nI_eq (by omega) (by omega)).mp h)), p_wrI b2.f.1, Option.bind_some]
theorem upB_id {B : Nat → ZB} {p : Nat} : upB B p (B p) = B := funext (fun q => by
  unfold upB
  split
  · rename_i e; rw [e]
  · rfl)
/-- what holds in the class while years are drawn -/
def YC (x q : Nat) (g g' : ZS) (A : ZA) (s : YS) : Prop := CI x g' A ∧ CS g' (x + 55) (an A) s.2.2 (ame A) s.2.1 ∧ zsh g' q = some (1, 0) ∧ zgi g' q 0 = s.1 ∧ zX x (x + 581) g g'
theorem YC.draw {s : YS} (h : YC x q g g1 A s) (hA : AI A c) (hq : x + 581 ≤ q) (hz : zsz g ≤ q) (hJ : zJ (fun a _ => a = q) g1 g2) (hr : zgi g2 q 0 = r) : YC x q g g2 A (r, s.2) := ⟨h.1.out hA hJ hq, h.2.1.keep hA.1.1 hJ (fun a j z => by have := z.1; have := z.2; omega), by rw [hJ.sh]; exact h.2.2.1, hr, h.2.2.2.2.step hJ (fun a j z => by omega)⟩
theorem YC.act {S : Nat → Nat → Prop} {s : YS} {B : Nat → ZB} {d : Nat} (h : YC x q g g1 A s) (hA : AI A c) (hq : x + 581 ≤ q) (hJ : zJ S g1 g2) (hS : ∀ a j, S a j → Scr x a j ∧ ¬ (a = x + 3 ∨ a = x + 4)) (hB : CS g2 (x + 55) (an A) d (ame A) B) : YC x q g g2 A (s.1, B, d) := ⟨⟨h.1.1.keep hA hJ (fun a j z => (hS a j z).1), h.1.2.keep hJ (fun z => (hS _ _ z).2 (Or.inl rfl)) (fun j z => (hS _ _ z).2 (Or.inr rfl))⟩, hB, by rw [hJ.sh]; exact h.2.2.1, by rw [hJ.gi (fun z => by have := scr_in (hS _ _ z).1; omega)]; exact h.2.2.2.1, h.2.2.2.2.step hJ (fun a j z => Or.inl (scr_in (hS a j z).1))⟩
theorem c_drawAct {s : YS} (hnx : nx = nxC) (hdv : dv = dvC) (hN : 10000 ≤ N) (hA : AI A c) (h : YC x q g g1 A s) (hq : x + 581 ≤ q) (hz : zsz g ≤ q) (hI : SI (an A) s.2.1) (hd : s.2.2 ≤ 1000000) : zW (f_X11_drawAct N x q g1) (fun o => o.1 = bI (yS nx dv A s).2 ∧ YC x q g o.2 A (yS nx dv A s).1) := by
  have n6 := hA.1.1
  obtain ⟨r, B, d⟩ := s
  dsimp only at hI hd
  unfold f_X11_drawAct f_X11_drawAct_69 f_X11_drawAct_107
  rw [c_5]
  refine c_next hnx hdv h.2.2.1 h.2.2.2.1 (by omega) (by omega) (fun g2 J2 e2 => ?_)
  have h2 : YC x q g g2 A (nx r, B, d) := h.draw hA hq hz J2 e2
  dsimp only
  have hL := h2.1.1.1
  unfold yS
  by_cases e5 : dv (nx r) % 5 < 2
  · rw [c_2, if_neg (nI_ge e5 (by omega)), if_pos e5]
    refine w_rdR hL.s0 hL.r0_7 (w_vs hL.s0 ?_)
    rw [c_1]
    refine (s_passDays (k := 1) hN hL.s0 hL.r0_2 (c_XHl h2.1.1) h2.1.1.2.2.1 hA.2.1.2 hL.SL55 h2.2.1 hI n6 (by omega) (show d + 1 < 2 ^ 31 by omega) (by omega)).bind (fun o ho => ?_)
    rw [zW_some]
    exact ⟨rfl, h2.act hA hq ho.2.1 (fun a j z => by have := z.1; have := z.2; omega) ho.2.2⟩
  · rw [c_2, if_pos (nI_le (by omega) (by omega)), if_neg e5]
    refine w_rdR hL.s0 hL.r0_7 (w_rdI hL.SL55.f.1 h2.2.1.1 ?_)
    by_cases e0 : an A = 0
    · rw [if_pos (by rw [e0]; rfl), if_pos e0, zW_some]
      exact ⟨rfl, h2⟩
    · rw [if_neg (nI_ne0 (by omega) (by omega)), if_neg e0]
      refine w_rdR hL.s0 hL.r0_7 (w_rdI hL.SL55.f.1 h2.2.1.1 ?_)
      refine c_next hnx hdv h2.2.2.1 h2.2.2.2.1 (by omega) (by omega) (fun g3 J3 e3 => ?_)
      have h3 : YC x q g g3 A (nx (nx r), B, d) := h2.draw hA hq hz J3 e3
      have S3 : CS g3 (x + 55) (an A) d (ame A) B := h3.2.1
      dsimp only
      have hL3 := h3.1.1.1
      have hp : dv (nx (nx r)) % an A < an A := Nat.mod_lt _ (by omega)
      unfold yAc
      generalize dv (nx (nx r)) % an A = p at hp
      have hBp := hI p hp
      have hme := (hA.1.2.1 p hp).2
      by_cases a2 : dv (nx r) % 5 = 2
      · rw [if_pos (by rw [a2]), if_pos a2]
        refine w_rdR hL3.s0 hL3.r0_7 (w_vs hL3.s0 ?_)
        unfold ySp
        by_cases hc0 : bc (B p) = 0
        · refine (s_utter (s := x + 55) hN h3.1.1 hA (Or.inr rfl) hL3.SL55 S3 n6 hp hme hI hc0 rfl).bind (fun o ho => ?_)
          have h8 : (sayA A (B p) (ame A p)).length ≤ 8 := says_len
          by_cases hb : bo (B p) < (sayA A (B p) (ame A p)).length
          · obtain ⟨o1, o2, o3⟩ := ho.1 hb
            have hw := (sayA_lt hb).1
            rw [o1, if_neg (nI_pos (by omega)), if_pos (show vp_nar .boolean (1 : Int32) = 1 from rfl), zW_some, if_pos ⟨hc0, hb⟩]
            exact ⟨rfl, h3.act hA hq o2 (fun a j z => by omega) o3⟩
          · obtain ⟨o1, o2⟩ := ho.2 hb
            rw [o1, if_pos (show (-3 : Int32) < 0 by decide), if_pos (show vp_nar .boolean (0 : Int32) = 0 from rfl), zW_some, if_neg (fun h => hb h.2)]
            exact ⟨rfl, h3.act hA hq o2 (fun a j z => by omega) (S3.keep n6 o2 (fun a j z => by have := z.1; have := z.2; omega))⟩
        · rw [e_utter2 (s := x + 55) hL3.SL55 S3 n6 hp hBp hc0, Option.bind_some, if_pos (show (-2 : Int32) < 0 by decide), if_pos (show vp_nar .boolean (0 : Int32) = 0 from rfl), zW_some, if_neg (fun h => hc0 h.1)]
          exact ⟨rfl, h3⟩
      · rw [if_neg (fun h => a2 ((nI_eq (by omega) (by omega)).mp h)), if_neg a2]
        by_cases a3 : dv (nx r) % 5 = 3
        · rw [if_pos (by rw [a3]; rfl), if_pos a3]
          refine w_rdR hL3.s0 hL3.r0_7 ?_
          rw [c_4]
          refine c_next hnx hdv h3.2.2.1 h3.2.2.2.1 (by omega) (by omega) (fun g4 J4 e4 => ?_)
          have h4 : YC x q g g4 A (nx (nx (nx r)), B, d) := h3.draw hA hq hz J4 e4
          have S4 : CS g4 (x + 55) (an A) d (ame A) B := h4.2.1
          dsimp only
          have hh : dv (nx (nx (nx r))) % 4 < 4 := Nat.mod_lt _ (by omega)
          generalize dv (nx (nx (nx r))) % 4 = hs' at hh
          rw [e_bringS h4.1.1.1.SL55 S4 n6 hp hh hBp]
          by_cases e : bh (B p) = hs'
          · rw [if_pos e, Option.bind_some, zW_some]
            refine ⟨rfl, ?_⟩
            rw [← e]
            show YC x q g g4 A (nx (nx (nx r)), upB B p (B p), d)
            rw [upB_id]
            exact h4
          · rw [if_neg e, Option.bind_some, zW_some]
            have J5 : zJ (Sb (x + 55 + 2 + 5 * p)) g4 (zsetI g4 (x + 55 + 2 + 5 * p) 4 (nI hs')) := zJ.setI ⟨by omega, by omega, by omega⟩
            exact ⟨rfl, h4.act hA hq J5 (fun a j z => by have := z.1; have := z.2.1; omega) (S4.up J5 (S4.2.2 p hp).1.move)⟩
        · rw [if_neg (show ¬ nI (dv (nx r) % 5) = 3 from fun h => a3 ((nI_eq (b := 3) (by omega) (by omega)).mp h)), if_neg a3]
          refine w_rdR hL3.s0 hL3.r0_7 ?_
          rw [c_8]
          refine c_next hnx hdv h3.2.2.1 h3.2.2.2.1 (by omega) (by omega) (fun g4 J4 e4 => ?_)
          have h4 : YC x q g g4 A (nx (nx (nx r)), B, d) := h3.draw hA hq hz J4 e4
          have S4 : CS g4 (x + 55) (an A) d (ame A) B := h4.2.1
          dsimp only
          have hw : dv (nx (nx (nx r))) % 8 < 8 := Nat.mod_lt _ (by omega)
          generalize dv (nx (nx (nx r))) % 8 = w at hw
          unfold yTe
          by_cases hh : 0 < bO (B p) w
          · refine (s_feed h4.1.1.1.SL55 S4 n6 hp hw hBp hh).bind (fun o ho => ?_)
            rw [zW_some, if_pos hh]
            exact ⟨rfl, h4.act hA hq ho.2.1 (fun a j z => by have := z.1; have := z.2.1; omega) (S4.up ho.2.1 ho.2.2)⟩
          · rw [e_feed2 h4.1.1.1.SL55 S4 n6 hp hw (by omega), Option.bind_some, zW_some, if_neg hh]
            exact ⟨rfl, h4⟩
end YE
