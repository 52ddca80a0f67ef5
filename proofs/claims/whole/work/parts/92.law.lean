/-! ===== law: what another rule would do ===== -/
theorem list_eqD {l l' : List Nat} (h1 : l.length = l'.length) (h2 : ∀ j, j < l.length → l.getD j 0 = l'.getD j 0) : l = l' := by
  refine List.ext_getElem h1 (fun i h3 h4 => ?_)
  have := h2 i h3
  rwa [getD_ge' h3, getD_ge' h4] at this
theorem differs_iff {l l' : List Nat} (h1 : ∀ j, j < l.length → l.getD j 0 < 8) (h2 : ∀ j, j < l'.length → l'.getD j 0 < 8) (h3 : l.length ≤ 8) (h4 : l'.length ≤ 8) : ((if dfs l l' < max l.length l'.length then nI (dfs l l') else -nI 1) = (-1 : Int32)) ↔ l = l' := by
  obtain ⟨d1, d2⟩ := dfs_eq h1 h2
  obtain ⟨k1, k2, k3⟩ := kr_spec l l'
  by_cases e : kr l l' = l.length ∧ kr l l' = l'.length
  · rw [d1 e, if_neg (Nat.lt_irrefl _)]
    exact ⟨fun _ => list_eqD (by omega) (fun j hj => k2 j (by omega)), fun _ => rfl⟩
  · obtain ⟨e1, e2⟩ := d2 e
    rw [e1, if_pos e2]
    refine ⟨fun h => absurd h (fun h => (neg1_ne (by omega)).mp h), fun h => ?_⟩
    subst h
    rw [Nat.min_self] at k1 k3
    exact absurd ⟨Nat.le_antisymm k1 (Nat.le_of_not_lt (fun h => k3 h rfl)), Nat.le_antisymm k1 (Nat.le_of_not_lt (fun h => k3 h rfl))⟩ e
/-- a row of words as one number -/
def cdL : List Nat → Nat
  | [] => 0
  | w :: r => 9 * cdL r + w + 1
theorem cdL_inj : ∀ l l' : List Nat, (∀ w, w ∈ l → w < 8) → (∀ w, w ∈ l' → w < 8) → cdL l = cdL l' → l = l'
  | [], [], _, _, _ => rfl
  | [], v :: r, _, _, h => by simp only [cdL] at h; omega
  | w :: r, [], _, _, h => by simp only [cdL] at h; omega
  | w :: r, v :: r', h1, h2, h => by
    have a1 := h1 w (List.mem_cons_self)
    have a2 := h2 v (List.mem_cons_self)
    simp only [cdL] at h
    have e1 : w = v := by omega
    have e2 : cdL r = cdL r' := by omega
    rw [e1, cdL_inj r r' (fun x hx => h1 x (List.mem_cons_of_mem _ hx)) (fun x hx => h2 x (List.mem_cons_of_mem _ hx)) e2]
theorem cdL_lt : ∀ l : List Nat, (∀ w, w ∈ l → w < 8) → cdL l < 9 ^ l.length
  | [], _ => by show 0 < 9 ^ 0; omega
  | w :: r, h => by
    have h1 := cdL_lt r (fun x hx => h x (List.mem_cons_of_mem _ hx))
    have h2 := h w (List.mem_cons_self)
    show 9 * cdL r + w + 1 < 9 ^ (r.length + 1)
    rw [Nat.pow_succ]; omega
theorem mem_getD {l : List Nat} {w : Nat} (h : w ∈ l) : ∃ i, i < l.length ∧ l.getD i 0 = w := by
  obtain ⟨i, hi, e⟩ := List.mem_iff_getElem.mp h
  exact ⟨i, hi, by rw [getD_ge' hi]; exact e⟩
theorem all8 {l : List Nat} (h : ∀ j, j < l.length → l.getD j 0 < 8) : ∀ w, w ∈ l → w < 8 := fun w hw => by
  obtain ⟨i, hi, e⟩ := mem_getD hw
  rw [← e]; exact h i hi
theorem p9 : ∀ n, n < 9 → 9 ^ n < 2 ^ 31 := by decide +kernel
theorem drop_cd {l : List Nat} {k : Nat} (h : k < l.length) : cdL (l.drop k) = 9 * cdL (l.drop (k + 1)) + l.getD k 0 + 1 := by
  rw [List.drop_eq_getElem_cons h, getD_ge' h]; rfl
section LW
variable {N m c : Nat} {A : ZA}
theorem e_codeL {g : ZS} {l : List Nat} (hN : 10000 ≤ N) (hR : LR m (zh g)) (h8 : l.length ≤ 8) (h : ∀ j, j < l.length → zgi g (m + 12) j = nI (l.getD j 0)) (hl : ∀ j, j < l.length → l.getD j 0 < 8) : zloop (fun s => f_X12_coded_21 N m s.1 s.2 g) N ((0 : Int32), nI l.length - (1 : Int32)) = some (nI (cdL l), g) := by
  refine zW_val ?_
  refine zW_for (fun i (s : Int32 × Int32) => s.1 = nI (cdL (l.drop (l.length - i))) ∧ s.2 = nI (l.length - i) - (1 : Int32)) l.length (fun i s hi hs => ?_) (fun s hs => ?_) (by omega) (Nat.zero_le _) ⟨by rw [Nat.sub_zero, List.drop_length]; rfl, rfl⟩
  · obtain ⟨y1, y2⟩ := s
    obtain ⟨h1, h2⟩ := hs
    dsimp only at h1 h2
    subst h1 h2
    obtain ⟨k, hk⟩ : ∃ k, l.length - i = k + 1 := ⟨l.length - i - 1, by omega⟩
    rw [hk, show l.length - (i + 1) = k by omega]
    show zW (f_X12_coded_21 N m (nI (cdL (l.drop (k + 1)))) (nI (k + 1) - (1 : Int32)) g) _
    unfold f_X12_coded_21
    rw [c_1, nI_sub (by omega), Nat.add_sub_cancel, if_neg (nI_pos (by omega))]
    refine w_rdR hR.s0 hR.r22 ?_
    rw [a20_8 hR.s12 (by omega), h k (by omega), Option.bind_some, zW_some, zI_inl, c_9, nI_mul, nI_add, nI_add, ← drop_cd (by omega)]
    exact ⟨rfl, (Int32.sub_eq_add_neg (a := nI k) (b := nI 1)).symm⟩
  · obtain ⟨y1, y2⟩ := s
    obtain ⟨h1, h2⟩ := hs
    dsimp only at h1 h2
    subst h1 h2
    rw [Nat.sub_self, List.drop_zero]
    show zW (f_X12_coded_21 N m (nI (cdL l)) (nI 0 - (1 : Int32)) g) _
    unfold f_X12_coded_21
    rw [if_pos (show nI 0 - (1 : Int32) < 0 by decide), Option.map_some, zW_some, zI_inr]
theorem r_coded {g : ZS} {p : Nat} (hN : 10000 ≤ N) (hR : RJ m g A) (hA : AI A c) (hp : p < an A) : zW (f_X12_coded N m (nI p) g) (fun o => o.1 = nI (cdL (sayA A (aB A p) (ame A p))) ∧ zM m (SY m (m + 12)) g o.2 ∧ RJ m o.2 A) := by
  unfold f_X12_coded
  refine w_rdR hR.1.s0 hR.1.r0 (w_rdR hR.1.s0 hR.1.r22 ?_)
  refine r_say hN hR hA (Or.inl rfl) hp (fun g2 J2 T2 R2 => ?_)
  dsimp only
  exact zW.eq (e_codeL hN R2.1 says_len T2 (fun j hj => (sayA_lt hj).1)) ⟨rfl, J2, R2⟩
/-- where the other rule is asked -/
def RV (m : Nat) (g : ZS) (A : ZA) (l : List Nat) : Prop := LR m (zh g) ∧ RQ g m (m + 10) l ∧ (∀ w, w < 8 → zgi g (m + 3) w = nI (aW A w)) ∧ zgi g m 1 = nI (an A) ∧ (∀ p, p < an A → zgi g (m + 2) p = nI (ame A p)) ∧ RN g (m + 1) (an A) (ad A) (aB A)
theorem RV.keep {S : Nat → Nat → Prop} {g g' : ZS} {l : List Nat} (h : RV m g A l) (hA : AI A c) (hJ : zM m S g g') (hS : ∀ a j, S a j → ScM m a j) : RV m g' A l := by
  obtain ⟨h1, h2, h3, h4, h5, h6⟩ := h
  have hJ := hJ.mono hS
  exact ⟨h1.M hJ, h2.keepM hJ (by omega) (fun j => by omega), fun w hw => by rw [hJ.gi (by omega)]; exact h3 w hw, by rw [hJ.gi (by omega)]; exact h4, fun p hp => by rw [hJ.gi (by omega)]; exact h5 p hp, h6.keepM hA.1.1 hJ (fun j _ => by omega)⟩
theorem r_coded2 {g : ZS} {p : Nat} {l code : List Nat} (hN : 10000 ≤ N) (hV : RV m g A l) (hRul : Rul l code) (hA : AI A c) (hp : p < an A) : zW (f_X12_coded N m (nI p) g) (fun o => o.1 = nI (cdL (sayA (sL A l code) (aB A p) (ame A p))) ∧ zM m (SY m (m + 12)) g o.2) := by
  have hV0 := hV
  obtain ⟨hR, hQ, hW, h1, hm, hB⟩ := hV
  have n6 := hA.1.1
  have hb := hB.2 p hp
  unfold f_X12_coded
  refine w_rdR hR.s0 hR.r0 (w_rdR hR.s0 hR.r22 (w_vs hR.s0 ?_))
  refine zW.bind (P := fun o => o.1 = nI (sayA (sL A l code) (aB A p) (ame A p)).length ∧ zM m (SY m (m + 12)) g o.2 ∧ ∀ j, j < (sayA (sL A l code) (aB A p) (ame A p)).length → zgi o.2 (m + 12) j = nI ((sayA (sL A l code) (aB A p) (ame A p)).getD j 0)) ?_ (fun o ho => ?_)
  · refine s_laySays (fd := fdC code (aB A p) (aW A)) hN hR hR.s1 hR.s12 (by omega) hb (hA.1.2.2.1 p hp) (hm p hp) (hA.1.2.1 p hp).2 (by omega) (by omega) (fun g' w hJ hw h0 => ?_)
    exact s_fond12 (W := aW A) (ra := m + 10) hN (hR.M hJ) (by rw [hJ.sh]; exact hR.s1) (by omega) hw (hb.keepM hJ (fun j _ _ => by omega)) (hQ.keepM hJ (by omega) (fun j => by omega)) hRul (by rw [hJ.gi (by omega)]; exact hW w hw) (by omega) (by omega)
  · obtain ⟨y, g2⟩ := o
    obtain ⟨o1, J2, T2⟩ := ho
    dsimp only at o1 J2 T2 ⊢
    rw [o1]
    exact zW.eq (e_codeL hN (hR.M J2) says_len T2 (fun j hj => (sayA_lt hj).1)) ⟨rfl, J2⟩
/-- the second tongue follows the other rule -/
theorem c_say2 {x p r' : Nat} {g : ZS} {l code : List Nat} {β : Type} {Q : β → Prop} {k : ZS → Option β} (hN : 10000 ≤ N) (hC : CJ x g A) (hA : AI A c) (hp : p < an A) (hr : zgr g x 5 = some r') (hQ : CQ g r' code) (hRul : Rul l code) (hk : ∀ g', zJ (SFc x (x + 493)) g g' → TS g' (x + 493) (sayA (sL A l code) (aB A p) (ame A p)) → CJ x g' A → zW (k g') Q) : zW ((zrdR g x 11 13).bind fun v5 => (zrdR g x 11 6).bind fun v6 => (zrdR g v6 6 0).bind fun v7 => (zaald 25 g v7 (nI p)).bind fun v8 => (zrdR g x 11 5).bind fun v9 => (zrdR g x 11 3).bind fun v10 => zvs g v5 10 <| (f_X10_follow N v5 v8 v9 v10 g).bind k) Q := by
  obtain ⟨b1, b2, b3, b4, b5, b6, b7⟩ := c_bird hC hA hp
  have n6 := hA.1.1
  obtain ⟨r, r1, h5, h6, h7, h8⟩ := hC.2.2.2.2.1
  have e1 : r1 = r' := Option.some.inj (h7.symm.trans hr)
  subst e1
  have hQL : QL (zh g) r1 := by
    rcases h5 with ⟨-, h⟩ | ⟨-, h⟩
    · rw [h]; exact hC.1.QL18
    · rw [h]; exact hC.1.QL13
  have hr13 : r1 = x + 13 ∨ r1 = x + 18 := by omega
  refine w_rdR hC.1.s0 hC.1.r0_13 (w_rdR hC.1.s0 hC.1.r0_6 (w_rdR hC.1.SL23.f.1 hC.1.SL23.f.2.2.1 ?_))
  rw [a25_6 hC.1.SL23.f.2.1 (by omega), b1, Option.bind_some]
  refine w_rdR hC.1.s0 hr (w_rdR hC.1.s0 hC.1.r0_3 (w_vs hC.1.TL493.f.1 ?_))
  have hs12 : zsh g (x + 12) = some (20, 8) := hC.1.s12
  have key : zW (f_X10_follow N (x + 493) (x + 23 + 2 + 5 * p) r1 (x + 12) g) (fun g' => zJ (SFc x (x + 493)) g g' ∧ TS g' (x + 493) (sayA (sL A l code) (aB A p) (ame A p))) := by
    refine (s_follow (W := aW A) (fd := fdC code (aB A p) (aW A)) hN hC.1.TL493 b2 hQL.f.1 hs12 b3 b4 b5 b7 hC.2.2.2.1 (by omega) (by omega) (by omega) (by omega) (by omega) (fun g' w hJ hw h0 => ?_)).mono (fun g' hg' => ⟨hg'.1.mono (fun a j z => by omega), hg'.2⟩)
    exact s_fond5 hN (by rw [hJ.1]; exact hQL) (by rw [hJ.1]; exact b2) (b3.keepJ hJ (fun a j z w => by have := z.1; have := z.2.1; omega)) hw (hQ.keep hJ (by omega) (fun j => by omega)) hRul.2.2.1 (hRul.ok _) (by omega)
  refine key.bind (fun g' hg' => hk g' hg'.1 hg'.2 (hC.keep hA hg'.1 (fun a j z => sfc_scr (by omega) z)))
theorem k_law (hN : 10000 ≤ N) : Call (fun x g => f_X11_law N x g) (fun m g => f_X12_law N m g) := call_s (fun x m c g A hC hA hc => by
  have n6 := hA.1.1
  have h80 := hA.2.2.1
  have h256 := hA.2.2.2.1
  have hL := hC.1.1
  obtain ⟨l, hl⟩ : ∃ l, l = aT A := ⟨_, rfl⟩
  rw [← hl] at h80 h256
  have hXT : XT g (x + 1) (x + 2) l := by rw [hl]; exact hC.1.2.1
  obtain ⟨r, r', h5, h6, h7, h8⟩ := hC.1.2.2.2.2.1
  have hQL : QL (zh g) r' := by
    rcases h5 with ⟨-, h⟩ | ⟨-, h⟩
    · rw [h]; exact hL.QL18
    · rw [h]; exact hL.QL13
  obtain ⟨⟨y, g1⟩, he, J1, hO⟩ := s_readFrom hN hQL hXT (by omega) (by omega)
  dsimp only at J1 hO
  have C1 : CJ x g1 A := hC.1.other hA h7 J1
  have J1' : zJ (fun a _ => x + 13 ≤ a ∧ a < x + 23) g g1 := J1.mono (fun a j z => by have := z.1; have := z.2; omega)
  have X1 := hC.2.stay J1' (fun a j z => by omega)
  obtain ⟨g2, hg2⟩ : ∃ g2, g2 = zsetI g1 (x + 1) 1 (nI 0) := ⟨_, rfl⟩
  have J2 : zJ (fun a j => a = x + 1 ∧ j = 1 ∨ a = x + 2) g1 g2 := by rw [hg2]; exact zJ.setI (by omega)
  obtain ⟨t1, t2, t3, -⟩ := C1.2.1
  have C2 : CJ x g2 (sT A []) := C1.setT hA (J2.mono (fun a j z => Or.inr z)) ⟨by rw [J2.sh]; exact t1, by rw [J2.sh]; exact t2, by rw [J2.gr]; exact t3, by rw [hg2, gi_sI, if_pos ⟨rfl, rfl⟩]; rfl, by simp, fun j hj => absurd hj (by simp)⟩
  have X2 := X1.stay J2 (fun a j z => by omega)
  have Z2 : zX x (x + 581) g g2 := (J1'.toX (fun a j z => by omega)).trans (J2.toX (fun a j z => by omega))
  have run : ∀ Z : Int32 × ZS → Prop, zW (if y = (-1 : Int32) then zloop (fun s => f_X11_law_35 N x s.1 s.2.1 s.2.2) N ((0 : Int32), (0 : Int32), g2) else some ((-10000 : Int32) - y, g2)) Z → zW (f_X11_law N x g) Z := by
    intro Z hZ
    unfold f_X11_law
    refine w_rdR hL.s0 h7 (w_rdR hL.s0 hL.r0_0 (w_vs hQL.f.1 (w_eq he ?_)))
    refine w_rdR C1.1.s0 C1.1.r0_0 ?_
    rw [show zwrI (y, g1).2 (x + 1) 8 1 (0 : Int32) = some g2 from by rw [c_0]; show zwrI g1 (x + 1) 8 1 (nI 0) = _; rw [p_wrI C1.1.s1, hg2], Option.bind_some]
    exact hZ
  by_cases hy : y = -nI 1
  · obtain ⟨code, hRul, hCQ⟩ := (hO.agree hO).2 hy
    have l40 := hRul.1
    have hAT := hA.noT
    obtain ⟨L, hLd⟩ : ∃ L : Nat → List Nat, L = fun p => (sayA A (aB A p) (ame A p)) := ⟨_, rfl⟩
    obtain ⟨M, hMd⟩ : ∃ M : Nat → List Nat, M = fun p => sayA (sL A l code) (aB A p) (ame A p) := ⟨_, rfl⟩
    have hLe : ∀ p, sayA A (aB A p) (ame A p) = L p := fun p => by rw [hLd]
    have hMe : ∀ p, sayA (sL A l code) (aB A p) (ame A p) = M p := fun p => by rw [hMd]
    have hL8 : ∀ p, (L p).length ≤ 8 := fun p => by rw [← hLe]; exact says_len
    have hM8 : ∀ p, (M p).length ≤ 8 := fun p => by rw [← hMe]; exact says_len
    have hLt : ∀ p j, j < (L p).length → (L p).getD j 0 < 8 := fun p j => by rw [← hLe]; exact fun hj => (sayA_lt hj).1
    have hMt : ∀ p j, j < (M p).length → (M p).getD j 0 < 8 := fun p j => by rw [← hMe]; exact fun hj => (sayA_lt hj).1
    obtain ⟨D, hD⟩ : ∃ D : Nat → Bool, D = fun p => decide (L p ≠ M p) := ⟨_, rfl⟩
    have hDt : ∀ p, D p = true ↔ L p ≠ M p := fun p => by rw [hD]; exact decide_eq_true_iff
    have hj64 := fun n (hn : n ≤ 6) => mk_lt (C := D) n hn
    refine ⟨nI (pc (mk D (an A))), sT (sR A [wL (mk D (an A))]) [], (hA.row (l := [wL (mk D (an A))]) (by simp)).noT.mono (Nat.le_succ c), ?_, fun g' hR => ?_⟩
    · refine run _ ?_
      rw [if_pos (show y = -1 from hy)]
      have r5 : zgr g2 x 5 = some r' := by rw [J2.gr, J1.gr]; exact h7
      have hq2 : CQ g2 r' code := ⟨by rw [J2.gi (by omega)]; exact hCQ.1, fun j hj => by rw [J2.gi (by omega)]; exact hCQ.2 j hj⟩
      refine zW_for (fun i (s : Int32 × Int32 × ZS) => s.1 = nI (mk D i) ∧ s.2.1 = nI i ∧ zJ (fun a j => SFc x (x + 480) a j ∨ SFc x (x + 493) a j) g2 s.2.2 ∧ CJ x s.2.2 (sT A [])) (an A) (fun i s hi hs => ?_) (fun s hs => ?_) (by omega) (Nat.zero_le _) ⟨rfl, rfl, zJ.rfl, C2⟩
      · obtain ⟨y1, y2, g3⟩ := s
        obtain ⟨k1, k2, k3, k4⟩ := hs
        dsimp only at k1 k2 k3 k4
        subst k1 k2
        show zW (f_X11_law_35 N x (nI (mk D i)) (nI i) g3) _
        unfold f_X11_law_35 f_X11_law_115
        refine c_size k4 ?_
        rw [if_neg (nI_ge hi (by omega))]
        refine c_say hN k4 hAT hi (Or.inl ⟨rfl, rfl⟩) (fun g4 J4 T4 C4 => ?_)
        refine c_say2 (l := l) hN C4 hAT hi (by rw [J4.gr, k3.gr]; exact r5) ((hq2.keep k3 (by omega) (fun j => by omega)).keep J4 (by omega) (fun j => by omega)) hRul (fun g5 J5 T5 C5 => ?_)
        have T45 := T4.keep J5 (by omega) (fun j => by omega)
        have T45' : TS g5 (x + 480) (L i) := by rw [← hLe]; exact T45
        have T5' : TS g5 (x + 493) (M i) := by rw [← hMe]; exact T5
        refine w_rdR C5.1.s0 C5.1.r0_12 (w_rdR C5.1.s0 C5.1.r0_13 (w_vs C5.1.TL480.f.1 (w_eq (e_differs hN C5.1.TL480 C5.1.TL493 T45' T5') ?_)))
        have hdi := differs_iff (hLt i) (hMt i) (hL8 i) (hM8 i)
        have hJ5 := (k3.trans (J4.mono (fun a j z => Or.inl z))).trans (J5.mono (fun a j z => Or.inr z))
        rw [mk_s]
        by_cases e : L i = M i
        · rw [if_pos (hdi.mpr e), zW_some, zI_inl, c_1, nI_add, if_neg (fun h => (hDt i).mp h e)]
          exact ⟨rfl, rfl, hJ5, C5⟩
        · rw [if_neg (fun h => e (hdi.mp h)), zW_some, zI_inl, c_1, nI_add, if_pos ((hDt i).mpr e)]
          exact ⟨(or64 _ (hj64 i (by omega)) i (by omega)).1, rfl, hJ5, C5⟩
      · obtain ⟨y1, y2, g3⟩ := s
        obtain ⟨k1, k2, k3, k4⟩ := hs
        dsimp only at k1 k2 k3 k4
        subst k1 k2
        show zW (f_X11_law_35 N x (nI (mk D (an A))) (nI (an A)) g3) _
        unfold f_X11_law_35
        refine c_size k4 ?_
        rw [if_pos (nI_le (show an A ≤ an A from Nat.le_refl _) (by omega)), zW_map]
        refine c_only k4 hAT (fun g4 J4 X4 C4 => ?_)
        refine w_eq (e_bc64 (hj64 _ n6)) ?_
        rw [zW_some]
        exact ⟨rfl, (Z2.trans (k3.toX (fun a j z => by omega))).trans (J4.toX (fun a j z => by omega)), C4, X4⟩
    · unfold Rc f_X12_law
      refine r_start hR hA (fun g3 J0 hR1 _ => ?_)
      have hRT : RT g3 m l := by rw [hl]; exact hR1.1.2.2.2.1
      refine w_rdI hR1.1.1.s0 hRT.1 (w_vs hR1.1.1.s0 ((s_readRule hN hR1.1.1 hRT).bind (fun o ho => ?_)))
      obtain ⟨z, go⟩ := o
      obtain ⟨J3, e7, O3, hcase⟩ := ho
      dsimp only at J3 e7 O3 hcase ⊢
      have hag := (hO.agree O3).1
      have h15 : zgi go m 15 = -nI 1 := by rw [← hag]; exact hy
      have o1 : z = nI 1 := by
        rcases hcase with ⟨-, h⟩ | ⟨⟨e, he, h⟩, -⟩
        · exact h
        · rw [h15] at h; rw [ng_eq2 (by omega) (by omega)] at h; omega
      have R3 : RI m go (sT A []) := r_noText hR1 hA J3 (fun a j z => Or.inl z) e7
      have Z3 := (J0.toX (fun a j z => scm_in z) (show m ≤ m ∧ m < m + 33 by omega)).trans (J3.toX (hi := m + 33) (fun a j z => by omega) (by omega))
      rw [o1, if_neg (show ¬ nI 1 = 0 by decide)]
      have T6 : ∀ j, j < l.length → zgi go (m + 6) j = sx (l.getD j 0) := fun j hj => by rw [J3.gi (by omega)]; exact (hRT.2.2 j hj).1
      refine zW_forI (fun i g' => zM m (fun a j => SY m (m + 12) a j ∨ a = m + 29) go g' ∧ RJ m g' (sT A []) ∧ ∀ p, p < i → zgi g' (m + 29) p = nI (cdL (L p))) (an A) (fun i g4 hi hI => ?_) (fun g4 hI => ?_) (by omega) (Nat.zero_le _) ⟨zM.rfl, R3.1, fun p hp => absurd hp (Nat.not_lt_zero p)⟩
      · obtain ⟨J4, R4, e4⟩ := hI
        show zW (f_X12_law_28 N m (nI l.length) (nI i) g4) _
        unfold f_X12_law_28
        refine w_rdI R4.1.s0 R4.2.2.2.2.2.2.1.1 ?_
        rw [if_neg (nI_ge hi (by omega))]
        refine w_rdR R4.1.s0 R4.1.r42 (w_vs R4.1.s0 ((r_coded hN R4 hAT hi).bind (fun o ho => ?_)))
        obtain ⟨z5, g5⟩ := o
        obtain ⟨q1, q2, q3⟩ := ho
        dsimp only at q1 q2 q3 ⊢
        have q1' : z5 = nI (cdL (L i)) := by rw [← hLe]; exact q1
        rw [w20_6 q3.1.s29 (by omega), Option.bind_some, zW_some, zI_inl, c_1, nI_add, q1']
        have J6 : zJ (fun a j => a = m + 29) g5 (zsetI g5 (m + 29) i (nI (cdL (L i)))) := zJ.setI rfl
        refine ⟨rfl, (J4.trans (q2.mono (fun a j z => Or.inl z))).trans ((J6.toM (m := m)).mono (fun a j z => Or.inr z)), q3.keep hAT (J6.toM (m := m)) (fun a j z => by omega), fun p hp => ?_⟩
        rw [gi_sI]
        by_cases e : p = i
        · subst e; rw [if_pos ⟨rfl, rfl⟩]
        · rw [if_neg (by omega), q2.gi (by omega)]; exact e4 p (by omega)
      · obtain ⟨J4, R4, e4⟩ := hI
        show zW (f_X12_law_28 N m (nI l.length) (nI (an A)) g4) _
        unfold f_X12_law_28
        refine w_rdI R4.1.s0 R4.2.2.2.2.2.2.1.1 ?_
        rw [if_pos (nI_le (show an A ≤ an A from Nat.le_refl _) (by omega)), zW_map]
        obtain ⟨hq1, hq2, hq3, hq4⟩ := R4.2.2.1
        refine w_rdR R4.1.s0 hq1 (w_rdI R4.1.s0 hq3 (w_rdR R4.1.s0 R4.2.1 ?_))
        rw [p_wrR R4.1.s0, Option.bind_some, p_wrI (by exact R4.1.s0), Option.bind_some]
        obtain ⟨g5, hg5⟩ : ∃ g5, g5 = zsetI (zsetR g4 m 17 (some (m + 10))) m 19 (nI l.length) := ⟨_, rfl⟩
        rw [← hg5]
        have sh5 : zsh g5 = zsh g4 := by rw [hg5]; rfl
        have gr5 : ∀ a j, ¬ (a = m ∧ j = 17) → zgr g5 a j = zgr g4 a j := fun a j hn => by rw [hg5]; show zgr (zsetR g4 m 17 (some (m + 10))) a j = _; rw [gr_sR, if_neg hn]
        have gi5 : ∀ a j, ¬ (a = m ∧ j = 19) → zgi g5 a j = zgi g4 a j := fun a j hn => by rw [hg5, gi_sI, if_neg hn]; rfl
        have L5 : LR m (zh g5) := R4.1.move (fun a => congrFun sh5 a) (fun j _ h17 _ => gr5 m j (fun h => h17 h.2))
        have hr17 : zgr g5 m 17 = some (m + 10) := by rw [hg5]; show zgr (zsetR g4 m 17 (some (m + 10))) m 17 = _; rw [gr_sR, if_pos ⟨rfl, rfl⟩]
        have T5 : ∀ j, j < l.length → zgi g5 (m + 6) j = sx (l.getD j 0) := fun j hj => by rw [gi5 _ _ (by omega), J4.gi (by omega)]; exact T6 j hj
        refine zW_forI (fun i g' => zJ (fun a j => a = m + 10) g5 g' ∧ ∀ j, j < i → zgi g' (m + 10) j = sx (l.getD j 0)) l.length (fun i g6 hi hI => ?_) (fun g6 hI => ?_) (by omega) (Nat.zero_le _) ⟨zJ.rfl, fun j hj => absurd hj (Nat.not_lt_zero j)⟩
        · obtain ⟨J6, e6⟩ := hI
          have L6 := L5.J J6
          show zW (f_X12_law_79 N m (nI l.length) (m + 9) (nI (aL A).length) (nI i) g6) _
          unfold f_X12_law_79
          rw [if_neg (nI_ge hi (by omega))]
          refine w_rdR L6.s0 (by rw [J6.gr]; exact hr17) (w_rdR L6.s0 L6.r6 ?_)
          rw [a21_80 L6.s6 (by omega), J6.gi (by omega), T5 i hi, Option.bind_some, w21_40 L6.s10 (by omega), sx_nar _ (h256 i), Option.bind_some, zW_some, zI_inl, c_1, nI_add]
          refine ⟨rfl, J6.setI' rfl, fun j hj => ?_⟩
          by_cases e : j = i
          · subst e; rw [gi_sI, if_pos ⟨rfl, rfl⟩]
          · rw [gi_sI, if_neg (by omega)]; exact e6 j (by omega)
        · obtain ⟨J6, e6⟩ := hI
          have L6 := L5.J J6
          have V6 : RV m g6 A l := ⟨L6, ⟨by rw [J6.gr]; exact hr17, L6.s10, by rw [J6.gi (by omega), hg5, gi_sI, if_pos ⟨rfl, rfl⟩], e6⟩, fun w hw => by rw [J6.gi (by omega), gi5 _ _ (by omega)]; exact R4.2.2.2.2.2.1 w hw, by rw [J6.gi (by omega), gi5 _ _ (by omega)]; exact R4.2.2.2.2.2.2.1.1, fun p hp => by rw [J6.gi (by omega), gi5 _ _ (by omega)]; exact R4.2.2.2.2.2.2.1.2.1 p hp, by
            have hN' : RN g5 (m + 1) (an A) (ad A) (aB A) := by rw [hg5]; exact RN.keep (S := fun a j => a = m ∧ j = 19) (g := zsetR g4 m 17 (some (m + 10))) R4.2.2.2.2.2.2.1.2.2 n6 (zJ.setI ⟨rfl, rfl⟩) (fun j _ => by omega)
            exact hN'.keep n6 J6 (fun j _ => by omega)⟩
          have e29 : ∀ p, p < an A → zgi g6 (m + 29) p = nI (cdL (L p)) := fun p hp => by rw [J6.gi (by omega), gi5 _ _ (by omega)]; exact e4 p hp
          show zW (f_X12_law_79 N m (nI l.length) (m + 9) (nI (aL A).length) (nI l.length) g6) _
          unfold f_X12_law_79
          rw [if_pos (nI_le (Nat.le_refl _) (by omega)), zW_map]
          refine zW_for (fun i (s : Int32 × Int32 × ZS) => s.1 = nI (mk D i) ∧ s.2.1 = nI i ∧ zM m (SY m (m + 12)) g6 s.2.2 ∧ RV m s.2.2 A l) (an A) (fun i s hi hs => ?_) (fun s hs => ?_) (by omega) (Nat.zero_le _) ⟨rfl, rfl, zM.rfl, V6⟩
          · obtain ⟨y1, y2, g7⟩ := s
            obtain ⟨k1, k2, k3, k4⟩ := hs
            dsimp only at k1 k2 k3 k4
            subst k1 k2
            show zW (f_X12_law_111 N m (m + 9) (nI (aL A).length) (nI (mk D i)) (nI i) g7) _
            unfold f_X12_law_111 f_X12_law_146
            refine w_rdI k4.1.s0 k4.2.2.2.1 ?_
            rw [if_neg (nI_ge hi (by omega))]
            refine w_vs k4.1.s0 ((r_coded2 hN k4 hRul hA hi).bind (fun o ho => ?_))
            obtain ⟨z8, g8⟩ := o
            obtain ⟨q1, q2⟩ := ho
            dsimp only at q1 q2 ⊢
            have V8 := k4.keep hA q2 (fun a j z => by omega)
            rw [hMe] at q1
            refine w_rdR V8.1.s0 V8.1.r42 ?_
            rw [a20_6 V8.1.s29 (by omega), q2.gi (by omega), k3.gi (by omega), e29 i hi, Option.bind_some, q1, mk_s]
            have b1 := Nat.lt_of_lt_of_le (cdL_lt (L i) (all8 (hLt i))) (Nat.le_of_lt (p9 _ (by have := hL8 i; omega)))
            have b2 := Nat.lt_of_lt_of_le (cdL_lt (M i) (all8 (hMt i))) (Nat.le_of_lt (p9 _ (by have := hM8 i; omega)))
            by_cases e : L i = M i
            · rw [if_pos (by rw [e]), zW_some, zI_inl, c_1, nI_add, if_neg (fun h => (hDt i).mp h e), or_z0]
              exact ⟨rfl, rfl, k3.trans q2, V8⟩
            · rw [if_neg (fun h => e (cdL_inj _ _ (all8 (hLt i)) (all8 (hMt i)) ((nI_inj b2 b1).mp h).symm)), zW_some, zI_inl, c_1, nI_add, if_pos ((hDt i).mpr e)]
              exact ⟨(or64 _ (hj64 i (by omega)) i (by omega)).1, rfl, k3.trans q2, V8⟩
          · obtain ⟨y1, y2, g7⟩ := s
            obtain ⟨k1, k2, k3, k4⟩ := hs
            dsimp only at k1 k2 k3 k4
            subst k1 k2
            show zW (f_X12_law_111 N m (m + 9) (nI (aL A).length) (nI (mk D (an A))) (nI (an A)) g7) _
            unfold f_X12_law_111
            refine w_rdI k4.1.s0 k4.2.2.2.1 ?_
            rw [if_pos (nI_le (Nat.le_refl _) (by omega)), zW_map, p_wrR k4.1.s0, Option.bind_some, p_wrI (by exact k4.1.s0), Option.bind_some]
            obtain ⟨g8, hg8⟩ : ∃ g8, g8 = zsetI (zsetR g7 m 17 (some (m + 9))) m 19 (nI (aL A).length) := ⟨_, rfl⟩
            rw [← hg8]
            have JJ : zM m (fun a j => SY m (m + 12) a j ∨ a = m + 10) g4 g8 := by
              refine ⟨?_, ?_, fun a j hn => ?_, fun a j hn => ?_⟩
              · rw [hg8]; show zsh g7 = _; rw [k3.sh, J6.sh, sh5]
              · rw [hg8]; show zsz g7 = _; rw [k3.2.1, J6.sz, hg5]; rfl
              · rw [hg8]
                show zgr (zsetR g7 m 17 (some (m + 9))) a j = _
                rw [gr_sR]
                by_cases e : a = m ∧ j = 17
                · rw [if_pos e, e.1, e.2]; exact hq1.symm
                · rw [if_neg e, k3.gr hn, J6.gr, gr5 a j e]
              · rw [hg8]
                refine ⟨?_, ?_⟩
                · rw [gi_sI]
                  by_cases e : a = m ∧ j = 19
                  · rw [if_pos e, e.1, e.2]; exact hq3.symm
                  · rw [if_neg e]
                    show zgi g7 a j = _
                    rw [k3.gi (fun z => hn (Or.inl z)), J6.gi (fun z => hn (Or.inr z)), gi5 a j e]
                · show zgl g7 a j = _
                  rw [k3.gl (fun z => hn (Or.inl z)), J6.gl (fun z => hn (Or.inr z)), hg5]; rfl
            have R8 : RJ m g8 (sT A []) := R4.setL (l := aL A) (k := aK A) hAT (JJ.mono (fun a j z => by omega)) ⟨by rw [JJ.gr (by omega)]; exact hq1, by rw [JJ.sh]; exact hq2, by rw [JJ.gi (by omega)]; exact hq3, fun j hj => by rw [JJ.gi (by omega)]; exact hq4 j hj⟩
            refine r_only R8 hAT (fun g9 J9 W9 R9 => ?_)
            refine w_eq (e_bc64 (hj64 _ n6)) ?_
            rw [zW_some]
            exact ⟨rfl, ((Z3.trans (J4.toX (fun a j z => by omega) (by omega))).trans (JJ.toX (fun a j z => by omega) (by omega))).trans (J9.toX (fun a j z => by omega)), R9, W9⟩
  · refine ⟨(-10000 : Int32) - y, sT A [], hA.noT.mono (Nat.le_succ c), ?_, fun g' hR => ?_⟩
    · refine run _ ?_
      rw [if_neg (show ¬ y = -1 from hy), zW_some]
      exact ⟨rfl, Z2, C2, X2⟩
    · unfold Rc f_X12_law
      refine r_start hR hA (fun g3 J0 hR1 _ => ?_)
      have hRT : RT g3 m l := by rw [hl]; exact hR1.1.2.2.2.1
      refine w_rdI hR1.1.1.s0 hRT.1 (w_vs hR1.1.1.s0 ((s_readRule hN hR1.1.1 hRT).bind (fun o ho => ?_)))
      obtain ⟨J3, e7, O3, hcase⟩ := ho
      have hag := (hO.agree O3).1
      have o1 : o.1 = nI 0 := by
        rcases hcase with ⟨h, -⟩ | ⟨-, h⟩
        · exact absurd (hag.trans h) hy
        · exact h
      have R3 : RI m o.2 (sT A []) := r_noText hR1 hA J3 (fun a j z => Or.inl z) e7
      rw [o1, if_pos (show nI 0 = 0 from rfl)]
      refine w_rdI R3.1.1.s0 hag.symm ?_
      rw [zW_some]
      exact ⟨rfl, (J0.toX (fun a j z => scm_in z) (by omega)).trans (J3.toX (fun a j z => by omega) (by omega)), R3⟩)
end LW
