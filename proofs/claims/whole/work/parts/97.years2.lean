/-! ===== years: the reference, the call ===== -/
theorem ySp_y {A : ZA} {r : Int32} {B : Nat → ZB} {d p : Nat} (h : bc (B p) = 0 ∧ bo (B p) < (sayA A (B p) (ame A p)).length) : ySp A r B d p = ((r, spB B p ((sayA A (B p) (ame A p)).getD (bo (B p)) 0) (an A), d), true) := if_pos h
theorem ySp_n {A : ZA} {r : Int32} {B : Nat → ZB} {d p : Nat} (h : ¬ (bc (B p) = 0 ∧ bo (B p) < (sayA A (B p) (ame A p)).length)) : ySp A r B d p = ((r, B, d), false) := if_neg h
section YR1
variable {nx : Int32 → Int32} {dv : Int32 → Nat} {N x m c q : Nat} {g g1 g2 g' : ZS} {A : ZA} {β : Type} {Q : β → Prop} {r : Int32}
def YR (m : Nat) (g g' : ZS) (A : ZA) (s : YS) : Prop := zM m (ScM m) g g' ∧ RJ m g' A ∧ RN g' (m + 17) (an A) s.2.2 s.2.1 ∧ zgi g' m 43 = s.1
theorem YR.draw {r0 : Int32} {B : Nat → ZB} {d : Nat} (h : YR m g g1 A (r0, B, d)) (hA : AI A c) (hJ : zJ (fun a j => a = m ∧ j = 43) g1 g2) (hr : zgi g2 m 43 = r) : YR m g g2 A (r, B, d) := ⟨h.1.trans ((hJ.toM (m := m)).mono (fun a j z => by omega)), h.2.1.keep hA (hJ.toM (m := m)) (fun a j z => by omega), h.2.2.1.keep hA.1.1 hJ (fun j _ => by omega), hr⟩
theorem YR.act {S : Nat → Nat → Prop} {B0 B : Nat → ZB} {d0 d : Nat} (h : YR m g g1 A (r, B0, d0)) (hA : AI A c) (hJ : zM m S g1 g2) (hS : ∀ a j, S a j → ScM m a j ∧ ¬ (a = m ∧ j = 43)) (hB : RN g2 (m + 17) (an A) d B) : YR m g g2 A (r, B, d) := ⟨h.1.trans (hJ.mono (fun a j z => (hS a j z).1)), h.2.1.keep hA hJ (fun a j z => (hS a j z).1), hB, by rw [hJ.gi (fun z => (hS _ _ z).2 ⟨rfl, rfl⟩)]; exact h.2.2.2⟩
theorem r_yearStep {s : YS} {n k sp : Nat} {Z : Int32 × ZS → Prop} (hnx : nx = nxC) (hdv : dv = dvC) (hN : 10000 ≤ N) (hA : AI A c) (h : YR m g g1 A s) (hI : SI (an A) s.2.1) (hd : s.2.2 ≤ 1000000) (hk : k < n) (hn : n ≤ 60) : zW (f_X12_years_39 N m (nI n) (nI sp) (nI k) g1) (zI (fun st : Int32 × Int32 × ZS => st.1 = nI (sp + (if (yS nx dv A s).2 = true then 1 else 0)) ∧ st.2.1 = nI (k + 1) ∧ YR m g st.2.2 A (yS nx dv A s).1) Z) := by
  have n6 := hA.1.1
  obtain ⟨r, B, d⟩ := s
  dsimp only at hI hd
  unfold f_X12_years_39
  rw [if_neg (nI_ge hk (by omega)), c_5]
  refine r_next hnx hdv h.2.1.1.s0 h.2.2.2 (by omega) (by omega) (fun g2 J2 e2 => ?_)
  have h2 : YR m g g2 A (nx r, B, d) := h.draw hA J2 e2
  dsimp only
  have hL := h2.2.1.1
  unfold yS f_X12_years_67 f_X12_years_188
  by_cases e5 : dv (nx r) % 5 < 2
  · rw [c_2, if_neg (nI_ge e5 (by omega)), if_pos e5]
    refine w_rdR hL.s0 hL.r28 (w_vs hL.s0 ?_)
    rw [c_1]
    refine (s_goDays (k := 1) hN hL hL.s17 h2.2.1.2.2.2.2.1 hA.2.1.2 h2.2.1.2.2.2.2.2.2.1.1 h2.2.2.1 hI n6 (by omega) (show d + 1 < 2 ^ 31 by omega) (by omega)).bind (fun g3 h3 => ?_)
    rw [if_pos (nI_lt e5 (by omega)), zW_some, zI_inl, nI_add]
    exact ⟨rfl, rfl, h2.act hA (h3.1.toM (m := m)) (fun a j z => by omega) h3.2⟩
  · rw [c_2, if_pos (nI_le (by omega) (by omega)), if_neg e5, if_neg (nI_nlt (by omega) (by omega))]
    refine w_rdI hL.s0 h2.2.1.2.2.2.2.2.2.1.1 ?_
    by_cases e0 : an A = 0
    · rw [if_pos (by rw [e0]; rfl), if_pos e0, zW_some, zI_inl, c_1, nI_add]
      exact ⟨rfl, rfl, h2⟩
    · rw [if_neg (nI_ne0 (by omega) (by omega)), if_neg e0]
      refine w_rdI hL.s0 h2.2.1.2.2.2.2.2.2.1.1 ?_
      refine r_next hnx hdv hL.s0 h2.2.2.2 (by omega) (by omega) (fun g3 J3 e3 => ?_)
      have h3 : YR m g g3 A (nx (nx r), B, d) := h2.draw hA J3 e3
      have S3 : RN g3 (m + 17) (an A) d B := h3.2.2.1
      dsimp only
      have hL3 := h3.2.1.1
      have hp : dv (nx (nx r)) % an A < an A := Nat.mod_lt _ (by omega)
      unfold yAc
      generalize dv (nx (nx r)) % an A = p at hp
      have hBp := hI p hp
      have hBr := S3.2 p hp
      -- nothing more for act 2
      have rest2 : ∀ (y : Nat) (g4 : ZS) (s' : YS), dv (nx r) % 5 = 2 → YR m g g4 A s' → zW (f_X12_years_126 N m (nI n) (nI y) (nI k) (nI (dv (nx r) % 5)) (nI p) g4) (zI (fun st : Int32 × Int32 × ZS => st.1 = nI y ∧ st.2.1 = nI (k + 1) ∧ YR m g st.2.2 A s') Z) := by
        intro y g4 s' e hY
        unfold f_X12_years_126 f_X12_years_148 f_X12_years_188
        rw [e, if_neg (show ¬ nI 2 = 3 by decide), if_neg (show ¬ nI 2 = 4 by decide), zW_some, zI_inl, c_1, nI_add]
        exact ⟨rfl, rfl, hY⟩
      by_cases a2 : dv (nx r) % 5 = 2
      · rw [if_pos (show nI (dv (nx r) % 5) = nI 2 by rw [a2]), if_pos a2]
        refine w_rdR hL3.s0 hL3.r28 (w_vs hL3.s0 ?_)
        by_cases hc0 : bc (B p) = 0
        · refine (r_refS hN h3.2.1 hA (Or.inr rfl) hp hBr hBp hc0 rfl).bind (fun o ho => ?_)
          obtain ⟨z, g4⟩ := o
          obtain ⟨o1, J4⟩ := ho
          dsimp only at o1 J4 ⊢
          have h4 : YR m g g4 A (nx (nx r), B, d) := h3.act hA J4 (fun a j z => by omega) (S3.keepM n6 J4 (fun j _ => by omega))
          by_cases hb : bo (B p) < (sayA A (B p) (ame A p)).length
          · rw [if_pos hb] at o1
            rw [if_pos o1, ySp_y ⟨hc0, hb⟩]
            dsimp only
            rw [if_pos rfl]
            refine w_rdR h4.2.1.1.s0 h4.2.1.1.r28 (w_vs h4.2.1.1.s0 ?_)
            refine (r_goSpeak hN h4.2.1 hA (Or.inr rfl) hp h4.2.2.1 hI rfl hb).bind (fun o ho => ?_)
            obtain ⟨z5, g5⟩ := o
            obtain ⟨o5, J5, D5⟩ := ho
            dsimp only at o5 J5 D5 ⊢
            rw [c_1, nI_add]
            exact rest2 _ _ _ a2 (h4.act hA J5 (fun a j z => by omega) D5)
          · rw [if_neg hb] at o1
            rw [if_neg (show ¬ z = 0 by rw [o1]; decide), ySp_n (fun h => hb h.2)]
            dsimp only
            rw [if_neg Bool.false_ne_true]
            exact rest2 _ _ _ a2 h4
        · rw [e_refS2 (N := N) h3.2.1 hA hL3.s17 hp hBr (by have := hBp.2.1; omega), Option.bind_some]
          dsimp only
          rw [if_neg (show ¬ (-2 : Int32) = 0 by decide), ySp_n (fun h => hc0 h.1)]
          dsimp only
          rw [if_neg Bool.false_ne_true]
          exact rest2 _ _ _ a2 h3
      · rw [if_neg (fun h => a2 ((nI_eq (by omega) (by omega)).mp h)), if_neg a2]
        unfold f_X12_years_126 f_X12_years_148 f_X12_years_188
        by_cases a3 : dv (nx r) % 5 = 3
        · rw [if_pos (show nI (dv (nx r) % 5) = 3 by rw [a3]; rfl), if_pos a3]
          refine w_rdR hL3.s0 hL3.r28 ?_
          unfold f_X12_of
          rw [c_36, nI_mul, c_0, nI_add, Option.bind_some, c_4]
          refine r_next hnx hdv hL3.s0 h3.2.2.2 (by omega) (by omega) (fun g4 J4 e4 => ?_)
          have h4 : YR m g g4 A (nx (nx (nx r)), B, d) := h3.draw hA J4 e4
          have S4 : RN g4 (m + 17) (an A) d B := h4.2.2.1
          dsimp only
          rw [w20_217 h4.2.1.1.s17 (by omega), Option.bind_some, if_neg (show ¬ nI (dv (nx r) % 5) = nI 4 by rw [a3]; decide), zW_some, zI_inl, c_1, nI_add, if_neg Bool.false_ne_true]
          have J5 : zJ (Sp (m + 17) (36 * p)) g4 (zsetI g4 (m + 17) (36 * p + 0) (nI (dv (nx (nx (nx r))) % 4))) := zJ.setI ⟨rfl, by omega, by omega⟩
          exact ⟨rfl, rfl, h4.act hA (J5.toM (m := m)) (fun a j z => by have := z.1; omega) (S4.up (by omega) J5 (S4.2 p hp).move)⟩
        · have a4 : dv (nx r) % 5 = 4 := by omega
          rw [if_neg (show ¬ nI (dv (nx r) % 5) = 3 by rw [a4]; decide), if_neg a3, if_pos (show nI (dv (nx r) % 5) = 4 by rw [a4]; rfl), c_8]
          refine r_next hnx hdv hL3.s0 h3.2.2.2 (by omega) (by omega) (fun g4 J4 e4 => ?_)
          have h4 : YR m g g4 A (nx (nx (nx r)), B, d) := h3.draw hA J4 e4
          have S4 : RN g4 (m + 17) (an A) d B := h4.2.2.1
          dsimp only
          have hL4 := h4.2.1.1
          have hw : dv (nx (nx (nx r))) % 8 < 8 := Nat.mod_lt _ (by omega)
          generalize dv (nx (nx (nx r))) % 8 = w at hw
          refine w_rdR hL4.s0 hL4.r28 ?_
          rw [e_hasHeard hL4.s17 (by omega) hw (S4.2 p hp) hBp, Option.bind_some]
          unfold yTe
          by_cases hh : 0 < bO (B p) w
          · rw [if_neg (bI_ne (decide_eq_true hh)), if_pos hh]
            refine w_rdR hL4.s0 hL4.r28 ?_
            rw [c_1]
            refine (s_goTeach (n := 1) hL4.s17 (by omega) hw (by omega) (S4.2 p hp) hBp).bind (fun g5 h5 => ?_)
            rw [zW_some, zI_inl, nI_add, if_neg Bool.false_ne_true]
            exact ⟨rfl, rfl, h4.act hA (h5.1.toM (m := m)) (fun a j z => by have := z.1; omega) (S4.up (by omega) h5.1 h5.2)⟩
          · rw [if_pos (bI_eq (decide_eq_false hh)), if_neg hh, zW_some, zI_inl, c_1, nI_add, if_neg Bool.false_ne_true]
            exact ⟨rfl, rfl, h4⟩
end YR1
section YC1
variable {N x m c q : Nat} {g g1 g2 g' : ZS} {A : ZA}
theorem e_heardS {s n d : Nat} {me : Nat → Nat} {B : Nat → ZB} (hN : 10000 ≤ N) (hs : SL (zh g) s) (hc : CS g s n d me B) (hn : n ≤ 6) : f_X6_heard N s g = some (nI (smN (fun p => bn (B p)) n)) := by
  obtain ⟨a1, a2, a3, a4⟩ := hs.f
  refine zW_val ?_
  unfold f_X6_heard
  refine zW_for (fun i (s : Int32 × Int32) => s.1 = nI (smN (fun p => bn (B p)) i) ∧ s.2 = nI i) n (fun i st hi hst => ?_) (fun st hst => ?_) (by omega) (Nat.zero_le _) ⟨rfl, rfl⟩
  · obtain ⟨y1, y2⟩ := st
    obtain ⟨h1, h2⟩ := hst
    dsimp only at h1 h2
    subst h1 h2
    obtain ⟨b1, b2⟩ := a4 i (by omega)
    show zW (f_X6_heard_4 N s _ (nI i) g) _
    unfold f_X6_heard_4
    refine w_rdI a1 hc.1 ?_
    rw [if_neg (nI_ge hi (by omega))]
    refine w_rdR a1 a3 ?_
    rw [a25_6 a2 (by omega), b1, Option.bind_some]
    refine w_rdI b2.f.1 (hc.2.2 i hi).1.2.2.1 ?_
    rw [zW_some, zI_inl, nI_add, c_1, nI_add]
    exact ⟨rfl, rfl⟩
  · obtain ⟨y1, y2⟩ := st
    obtain ⟨h1, h2⟩ := hst
    dsimp only at h1 h2
    subst h1 h2
    show zW (f_X6_heard_4 N s _ (nI n) g) _
    unfold f_X6_heard_4
    refine w_rdI a1 hc.1 ?_
    rw [if_pos (nI_le (Nat.le_refl _) (by omega)), Option.map_some, zW_some, zI_inr]
def knS (B : Nat → ZB) (k : Nat) : Int32 := zfold (fun p acc => acc ||| knB (bO (B p)) 8) k (nI 0)
theorem e_knownS {s n d : Nat} {me : Nat → Nat} {B : Nat → ZB} (hN : 10000 ≤ N) (hs : SL (zh g) s) (hc : CS g s n d me B) (hI : SI n B) (hn : n ≤ 6) : f_X6_known N s g = some (knS B n) := by
  obtain ⟨a1, a2, a3, a4⟩ := hs.f
  refine zW_val ?_
  unfold f_X6_known
  refine zW_for (fun i (s : Int32 × Int32) => s.1 = knS B i ∧ s.2 = nI i) n (fun i st hi hst => ?_) (fun st hst => ?_) (by omega) (Nat.zero_le _) ⟨rfl, rfl⟩
  · obtain ⟨y1, y2⟩ := st
    obtain ⟨h1, h2⟩ := hst
    dsimp only at h1 h2
    subst h1 h2
    obtain ⟨b1, b2⟩ := a4 i (by omega)
    show zW (f_X6_known_4 N s _ (nI i) g) _
    unfold f_X6_known_4
    refine w_rdI a1 hc.1 ?_
    rw [if_neg (nI_ge hi (by omega))]
    refine w_rdR a1 a3 ?_
    rw [a25_6 a2 (by omega), b1, Option.bind_some]
    refine w_vs b2.f.1 (w_eq (e_known hN b2 (hc.2.2 i hi).1 (hI i hi)) ?_)
    rw [zW_some, zI_inl, c_1, nI_add]
    exact ⟨rfl, rfl⟩
  · obtain ⟨y1, y2⟩ := st
    obtain ⟨h1, h2⟩ := hst
    dsimp only at h1 h2
    subst h1 h2
    show zW (f_X6_known_4 N s _ (nI n) g) _
    unfold f_X6_known_4
    refine w_rdI a1 hc.1 ?_
    rw [if_pos (nI_le (Nat.le_refl _) (by omega)), Option.map_some, zW_some, zI_inr]
/-- as Call, in a heap that holds the object -/
def CallZ {α : Type} (fC fR : Nat → ZS → Option (α × ZS)) : Prop := ∀ (x m c : Nat) (g : ZS) (A : ZA), CI x g A → AI A c → c < 512 → x + 581 ≤ zsz g → ∃ (a : α) (A' : ZA), AI A' (c + 1) ∧ Cc x A' a g (fC x g) ∧ ∀ g', RI m g' A → Rc m A' a g' (fR m g')
theorem call_z {α : Type} {fC fR : Nat → ZS → Option (α × ZS)} (h : ∀ (x m c : Nat) (g : ZS) (A : ZA), CI x g A → AI A c → c < 512 → x + 581 ≤ zsz g → ∃ (a : α) (A' : ZA), AI A' (c + 1) ∧ Cc x A' a g (fC x g) ∧ ∀ g', RI m g' A → Rc m A' a g' (fR m g')) : CallZ fC fR := h
theorem k_years (hN : 10000 ≤ N) (v u : Int32) : CallZ (fun x g => f_X11_years N x v u g) (fun m g => f_X12_years N m v u g) := call_z (fun x m c g A hC hA hc hz => by
  have n6 := hA.1.1
  have hbd := bnd hA hc
  cases hu : rb u 1 (60 + 1) with
  | false =>
    refine ⟨-1, A, hA.mono (Nat.le_succ c), ?_, fun g' hR => ?_⟩
    · unfold Cc f_X11_years f_X11_years_11
      rw [c_1, c_60, rngB (by omega) (by omega), hu, if_neg Bool.false_ne_true, zW_some]
      exact ⟨rfl, zX.rfl, hC⟩
    · unfold Rc f_X12_years
      refine r_start hR hA (fun g1 J0 hR1 _ => ?_)
      rw [c_1, c_60, e_in (by omega) (by omega), Option.bind_some, if_pos (bI_eq hu), zW_some]
      exact ⟨rfl, J0.toX (fun a j z => scm_in z) (by omega), hR1⟩
  | true =>
    obtain ⟨n, hn1, hn, rfl⟩ := rb_t hu (by omega)
    obtain ⟨nx, hnx⟩ : ∃ f, f = nxC := ⟨_, rfl⟩
    obtain ⟨dv, hdv⟩ : ∃ f, f = dvC := ⟨_, rfl⟩
    have hF := fun k => yF_inv (nx := nx) (dv := dv) (r := v) hA k
    have hFs : ∀ k, yF nx dv A v (k + 1) = ((yS nx dv A (yF nx dv A v k).1).1, (yF nx dv A v k).2 + (if (yS nx dv A (yF nx dv A v k).1).2 = true then 1 else 0)) := fun k => rfl
    obtain ⟨F, hFd⟩ : ∃ F : Nat → YS × Nat, F = yF nx dv A v := ⟨_, rfl⟩
    rw [← hFd] at hF hFs
    have hF0 : F 0 = ((v, aB A, ad A), 0) := by rw [hFd]; rfl
    obtain ⟨f1, f2, f3⟩ := hF n
    refine ⟨nI (F n).2, sR A [wL (smN (fun p => bn ((F n).1.2.1 p)) (an A)), (knS (F n).1.2.1 (an A)).toInt64], (hA.row (by simp)).mono (Nat.le_succ c), ?_, fun g' hR => ?_⟩
    · unfold Cc f_X11_years f_X11_years_11
      rw [c_1, c_60, rngB (by omega) (by omega), hu, if_pos rfl]
      refine c_spare hN hC.1 hA (fun g1 J1 S1 C1 => ?_)
      have X1 := hC.2.stay J1 (fun a j z => by have := z.1; have := z.2; omega)
      have sz1 : zsz g1 = zsz g := J1.sz
      refine w_new (fun g2 b1 b2 b3 b4 b5 => ?_)
      dsimp only
      rw [sz1] at b1 b2 b3 b4 b5 ⊢
      have C2 : CI x g2 A := CI.inn ⟨C1, X1⟩ hA (fun a _ _ => by rw [b2, if_neg (by omega)]) (fun a j _ _ => by rw [b3, if_neg (by omega)]) (fun a j _ _ => by rw [b4, if_neg (by omega)]) (fun a j _ _ => by rw [b5, if_neg (by omega)])
      have Z2 : zX x (x + 581) g g2 := ⟨by omega, fun a ha ho => ⟨by rw [b2, if_neg (by omega), J1.sh], fun j => ⟨by rw [b3, if_neg (by omega), J1.gi (fun z => by have := z.1; have := z.2; omega)], by rw [b4, if_neg (by omega), J1.gl (fun z => by have := z.1; have := z.2; omega)], by rw [b5, if_neg (by omega), J1.gr]⟩⟩⟩
      have S2 : CS g2 (x + 55) (an A) (ad A) (ame A) (aB A) := ⟨by rw [b3, if_neg (by omega)]; exact S1.1, by rw [b3, if_neg (by omega)]; exact S1.2.1, fun p hp => ⟨(S1.2.2 p hp).1.keep (fun a j s => by rw [b3, if_neg (by have := s.2.1; omega)]), by rw [b3, if_neg (by omega)]; exact (S1.2.2 p hp).2⟩⟩
      have s2 : zsh g2 (zsz g) = some (1, 0) := by rw [b2, if_pos rfl]
      unfold f_X1_init
      rw [p_wrI s2, Option.bind_some, Option.bind_some]
      have J3 : zJ (fun a _ => a = zsz g) g2 (zsetI g2 (zsz g) 0 v) := zJ.setI rfl
      have Y3 : YC x (zsz g) g (zsetI g2 (zsz g) 0 v) A (F 0).1 := by
        rw [hF0]
        exact ⟨C2.out hA J3 hz, S2.keep n6 J3 (fun a j z => by have := z.1; have := z.2; omega), by rw [J3.sh]; exact s2, by rw [gi_sI, if_pos ⟨rfl, rfl⟩], Z2.step J3 (fun a j z => by omega)⟩
      refine zW_for (fun k (s : Int32 × Int32 × ZS) => s.1 = nI (F k).2 ∧ s.2.1 = nI k ∧ YC x (zsz g) g s.2.2 A (F k).1) n (fun k s hk hs => ?_) (fun s hs => ?_) (by omega) (Nat.zero_le _) ⟨by rw [hF0]; rfl, rfl, Y3⟩
      · obtain ⟨y1, y2, g3⟩ := s
        obtain ⟨h1, h2, h3⟩ := hs
        dsimp only at h1 h2 h3
        subst h1 h2
        obtain ⟨q1, q2, q3⟩ := hF k
        show zW (f_X11_years_39 N x (nI n) (zsz g) (nI (F k).2) (nI k) g3) _
        unfold f_X11_years_39 f_X11_years_56
        rw [if_neg (nI_ge hk (by omega))]
        refine w_vs h3.1.1.1.s0 ((c_drawAct hnx hdv hN hA h3 hz (Nat.le_refl _) q1 (by omega)).bind (fun o ho => ?_))
        obtain ⟨z, g4⟩ := o
        obtain ⟨o1, o2⟩ := ho
        dsimp only at o1 o2 ⊢
        rw [hFs k]
        cases hb : (yS nx dv A (F k).1).2 with
        | false =>
          rw [if_pos (show z = 0 by rw [o1, hb]; rfl), zW_some, zI_inl, c_1, nI_add, if_neg Bool.false_ne_true]
          exact ⟨rfl, rfl, o2⟩
        | true =>
          rw [if_neg (show ¬ z = 0 by rw [o1, hb]; decide), zW_some, zI_inl, c_1, nI_add, nI_add, if_pos rfl]
          exact ⟨rfl, rfl, o2⟩
      · obtain ⟨y1, y2, g3⟩ := s
        obtain ⟨h1, h2, h3⟩ := hs
        dsimp only at h1 h2 h3
        subst h1 h2
        show zW (f_X11_years_39 N x (nI n) (zsz g) (nI (F n).2) (nI n) g3) _
        unfold f_X11_years_39
        rw [if_pos (nI_le (Nat.le_refl _) (by omega)), zW_map]
        obtain ⟨k1, k2, k3, k4, k5⟩ := h3
        have hL := k1.1.1
        refine w_rdR hL.s0 hL.r0_1 (w_rdR hL.s0 hL.r0_7 (w_vs hL.SL55.f.1 (w_eq (e_heardS hN hL.SL55 k2 n6) ?_)))
        refine w_rdR hL.s0 hL.r0_7 (w_vs hL.SL55.f.1 (w_eq (e_knownS hN hL.SL55 k2 f1 n6) (w_vs hL.s3 ?_)))
        refine (s_pair ⟨hL.s3, hL.s4, hL.r3_0⟩).bind (fun g4 h4 => ?_)
        rw [zW_some]
        exact ⟨rfl, k5.step h4.1 (fun a j z => by omega), k1.1.keep hA h4.1 (fun a j z => by omega), h4.2⟩
    · unfold Rc f_X12_years
      refine r_start hR hA (fun g1 J0 hR1 _ => ?_)
      rw [c_1, c_60, e_in (by omega) (by omega), Option.bind_some, if_neg (bI_ne hu), p_wrI hR1.1.1.s0, Option.bind_some]
      have J1 : zJ (fun a j => a = m ∧ j = 43) g1 (zsetI g1 m 43 v) := zJ.setI ⟨rfl, rfl⟩
      have R1 := hR1.1.keep hA (J1.toM (m := m)) (fun a j z => by omega)
      refine r_then hN R1 hA (fun g2 J2 T2 R2 => ?_)
      have Y2 : YR m g' g2 A (F 0).1 := by
        rw [hF0]
        exact ⟨(J0.trans ((J1.toM (m := m)).mono (fun a j z => by omega))).trans ((J2.toM (m := m)).mono (fun a j z => by omega)), R2, T2, by rw [J2.gi (by omega), gi_sI, if_pos ⟨rfl, rfl⟩]⟩
      refine zW_for (fun k (s : Int32 × Int32 × ZS) => s.1 = nI (F k).2 ∧ s.2.1 = nI k ∧ YR m g' s.2.2 A (F k).1) n (fun k s hk hs => ?_) (fun s hs => ?_) (by omega) (Nat.zero_le _) ⟨by rw [hF0]; rfl, rfl, Y2⟩
      · obtain ⟨y1, y2, g3⟩ := s
        obtain ⟨h1, h2, h3⟩ := hs
        dsimp only at h1 h2 h3
        subst h1 h2
        obtain ⟨q1, q2, q3⟩ := hF k
        show zW (f_X12_years_39 N m (nI n) (nI (F k).2) (nI k) g3) _
        rw [hFs k]
        exact r_yearStep hnx hdv hN hA h3 q1 (by omega) hk (by omega)
      · obtain ⟨y1, y2, g3⟩ := s
        obtain ⟨h1, h2, h3⟩ := hs
        dsimp only at h1 h2 h3
        subst h1 h2
        obtain ⟨k1, k2, k3, k4⟩ := h3
        show zW (f_X12_years_39 N m (nI n) (nI (F n).2) (nI n) g3) _
        unfold f_X12_years_39
        rw [if_pos (nI_le (Nat.le_refl _) (by omega)), zW_map]
        refine zW_for (fun p (s : Int32 × Int32 × Int32) => s.1 = nI (smN (fun p => bn ((F n).1.2.1 p)) p) ∧ s.2.1 = knS (F n).1.2.1 p ∧ s.2.2 = nI p) (an A) (fun p s hp hs => ?_) (fun s hs => ?_) (by omega) (Nat.zero_le _) ⟨rfl, rfl, rfl⟩
        · obtain ⟨z1, z2, z3⟩ := s
          obtain ⟨h1, h2, h3⟩ := hs
          dsimp only at h1 h2 h3
          subst h1 h2 h3
          have hb := k3.2 p hp
          show zW (f_X12_years_203 N m _ _ _ (nI p) g3) _
          unfold f_X12_years_203 f_X12_of
          refine w_rdI k2.1.s0 k2.2.2.2.2.2.2.1.1 ?_
          rw [if_neg (nI_ge hp (by omega))]
          refine w_rdR k2.1.s0 k2.1.r28 ?_
          rw [c_36, nI_mul, c_2, nI_add, Option.bind_some, a20_217 k2.1.s17 (by omega), hb.2.2.1, Option.bind_some]
          refine w_rdR k2.1.s0 k2.1.r28 (w_eq (e_heardBits hN k2.1.s17 (by omega) hb (f1 p hp)) ?_)
          rw [zW_some, zI_inl, nI_add, c_1, nI_add]
          exact ⟨rfl, rfl, rfl⟩
        · obtain ⟨z1, z2, z3⟩ := s
          obtain ⟨h1, h2, h3⟩ := hs
          dsimp only at h1 h2 h3
          subst h1 h2 h3
          show zW (f_X12_years_203 N m _ _ _ (nI (an A)) g3) _
          unfold f_X12_years_203
          refine w_rdI k2.1.s0 k2.2.2.2.2.2.2.1.1 ?_
          rw [if_pos (nI_le (Nat.le_refl _) (by omega)), zW_map]
          refine r_pair k2 hA (fun g4 J4 W4 R4 => ?_)
          rw [zW_some]
          exact ⟨rfl, (k1.toX (fun a j z => scm_in z) (by omega)).trans (J4.toX (fun a j z => by omega)), R4, W4⟩)
end YC1
