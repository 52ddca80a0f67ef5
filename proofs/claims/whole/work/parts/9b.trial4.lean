/-! ===== trial: the call ===== -/
def tS (A : ZA) (l : List Nat) : Nat → (Nat → ZB) × Nat
  | 0 => (aB A, ad A)
  | i + 1 => (aS (sS A (tS A l i).1 (tS A l i).2) l (tP l i)).getD (tS A l i)
def tK (A : ZA) (l : List Nat) : Nat := zleast (fun i => (aS (sS A (tS A l i).1 (tS A l i).2) l (tP l i)).isNone) (tN l) 0
theorem aS_inv {A : ZA} {c e d : Nat} {l : List Nat} {B : Nat → ZB} (hA : AI A c) (hg : gA l e = true) (h : aS A l e = some (B, d)) : SI (an A) B ∧ 2 * d ≤ 2 * ad A + 9 * ta (l.getD e 0) := by
  obtain ⟨g1, g2, g3, g4⟩ := of_decide_eq_true hg
  have hI := hA.1.2.2.1
  unfold aS at h
  split at h
  · rename_i hc
    injection h with h
    injection h with h1 h2
    subst h1 h2
    have h3 := td_n (g3 (by rw [hc]; decide))
    refine ⟨goB_SI hI _, ?_⟩
    rw [hc]
    show 2 * (ad A + (l.getD (e + 1) 0 - 48)) ≤ 2 * ad A + 9 * 2
    omega
  · split at h
    · split at h
      · rename_i hp
        injection h with h
        injection h with h1 h2
        subst h1 h2
        exact ⟨upB_SI hI (ctB_BI (hI _ hp)), by omega⟩
      · cases h
    · split at h
      · split at h
        · rename_i hp
          injection h with h
          injection h with h1 h2
          subst h1 h2
          exact ⟨upB_SI hI (mvB_BI (hI _ hp.1) hp.2.1), by omega⟩
        · cases h
      · split at h
        · split at h
          · rename_i hp
            injection h with h
            injection h with h1 h2
            subst h1 h2
            have h8 : (sayA A (aB A (l.getD (e + 1) 0 - 48)) (ame A (l.getD (e + 1) 0 - 48))).length ≤ 8 := says_len
            exact ⟨spB_SI hI hp.1 (by omega), by omega⟩
          · cases h
        · split at h
          · split at h
            · rename_i hp
              injection h with h
              injection h with h1 h2
              subst h1 h2
              exact ⟨upB_SI hI (tbW_BI (hI _ hp.1)), by omega⟩
            · cases h
          · injection h with h
            injection h with h1 h2
            subst h1 h2
            exact ⟨mpB_SI (fun b => hsB_BI) hI, by omega⟩
section TC
variable {N x m c : Nat} {g g' : ZS} {A : ZA} {l : List Nat}
theorem tI (hA : AI A c) (h80 : l.length ≤ 80) : ∀ i, i ≤ tN l → SI (an A) (tS A l i).1 ∧ 2 * (tS A l i).2 ≤ 2 * ad A + 9 * tP l i ∧ AI (sS A (tS A l i).1 (tS A l i).2) (c + 1)
  | 0, _ => ⟨hA.1.2.2.1, by show 2 * ad A ≤ 2 * ad A + 9 * 0; omega, hA.mono (Nat.le_succ c)⟩
  | i + 1, hi => by
    obtain ⟨h1, h2, h3⟩ := tI hA h80 i (by omega)
    obtain ⟨n80, hg, hend, h60, hbad⟩ := tN_spec h80
    obtain ⟨hlt, hga⟩ := hg i (by omega)
    have he := (gA_end hlt hga).2
    have hnext : tP l (i + 1) = tP l i + ta (l.getD (tP l i) 0) := rfl
    have hadc := hA.1.2.2.2
    have hs : tS A l (i + 1) = (aS (sS A (tS A l i).1 (tS A l i).2) l (tP l i)).getD (tS A l i) := rfl
    rw [hs]
    cases ha : aS (sS A (tS A l i).1 (tS A l i).2) l (tP l i) with
    | none =>
      show SI (an A) (tS A l i).1 ∧ 2 * (tS A l i).2 ≤ 2 * ad A + 9 * tP l (i + 1) ∧ AI (sS A (tS A l i).1 (tS A l i).2) (c + 1)
      exact ⟨h1, by omega, h3⟩
    | some r =>
      obtain ⟨B, d⟩ := r
      obtain ⟨k1, k2⟩ := aS_inv h3 hga ha
      show SI (an A) B ∧ 2 * d ≤ 2 * ad A + 9 * tP l (i + 1) ∧ AI (sS A B d) (c + 1)
      have k2' : 2 * d ≤ 2 * (tS A l i).2 + 9 * ta (l.getD (tP l i) 0) := k2
      exact ⟨k1, by omega, (hA.mono (Nat.le_succ c)).setSd k1 (by omega)⟩
theorem tK_spec : tK A l ≤ tN l ∧ (∀ i, i < tK A l → ∃ B d, aS (sS A (tS A l i).1 (tS A l i).2) l (tP l i) = some (B, d) ∧ tS A l (i + 1) = (B, d)) ∧ (tK A l < tN l → aS (sS A (tS A l (tK A l)).1 (tS A l (tK A l)).2) l (tP l (tK A l)) = none) := by
  obtain ⟨h1, h2, h3, h4⟩ := zleast_spec (fun i => (aS (sS A (tS A l i).1 (tS A l i).2) l (tP l i)).isNone) (tN l) 0
  refine ⟨by unfold tK; omega, fun i hi => ?_, fun h => Option.isNone_iff_eq_none.mp (h4 (by unfold tK at h; omega))⟩
  have h5 := h3 i (Nat.zero_le _) hi
  cases ha : aS (sS A (tS A l i).1 (tS A l i).2) l (tP l i) with
  | none => rw [ha] at h5; cases h5
  | some r =>
    refine ⟨r.1, r.2, rfl, ?_⟩
    show (aS (sS A (tS A l i).1 (tS A l i).2) l (tP l i)).getD (tS A l i) = r
    rw [ha]; rfl
def tFl (A : ZA) (l : List Nat) : Int64 := if tK A l < tN l then 1 else 0
/-- what the row and the state are after a trial -/
def tR (A : ZA) (l : List Nat) : ZA := sR (if tK A l = 0 then A else sX A (tS A l (tK A l)).1 (tS A l (tK A l)).2) [tFl A l, wL (tS A l (tK A l)).2]
theorem c_hold (hN : 10000 ≤ N) (hC : CI x g A) (hA : AI A c) (hc : c < 512) (hT : XT g (x + 1) (x + 2) l) (hok : tP l (tN l) = l.length) : zW (f_X11_holdTrial N x g) (fun o => o.1 = nI (tK A l) ∧ zX x (x + 581) g o.2 ∧ CJ x o.2 (tR A l) ∧ XR o.2 (x + 3) (x + 4) (aR (tR A l))) := by
  have n6 := hA.1.1
  have hbd := bnd hA hc
  have h80 := hT.2.2.2.2.1
  obtain ⟨n80, hg, hend, h60, hbad⟩ := tN_spec h80
  have hI := tI hA h80
  obtain ⟨kn, ky, kx⟩ := tK_spec (A := A) (l := l)
  unfold f_X11_holdTrial
  refine c_spare hN hC.1 hA (fun g1 J1 S1 C1 => ?_)
  have X1 := hC.2.stay J1 (fun a j z => by have := z.1; have := z.2; omega)
  have T1 : XT g1 (x + 1) (x + 2) l := hT.keep J1 (fun z => by have := z.1; omega) (fun j z => by have := z.1; omega)
  obtain ⟨K, hK⟩ : ∃ K, K = tK A l := ⟨_, rfl⟩
  rw [← hK] at kn ky kx
  have fin : ∀ (st : Int32) (g2 : ZS), st = (if K < tN l then nI 1 else nI 0) → zJ (SAc x) g1 g2 → CJ x g2 (sS A (tS A l K).1 (tS A l K).2) → zW (f_X11_holdTrial_71 N x (nI K) st g2) (fun o => o.1 = nI (tK A l) ∧ zX x (x + 581) g o.2 ∧ CJ x o.2 (tR A l) ∧ XR o.2 (x + 3) (x + 4) (aR (tR A l))) := by
    intro st g2 hst J2 C2
    obtain ⟨i1, i2, i3⟩ := hI K kn
    have X2 := X1.stay J2 (fun a j z => by omega)
    have Z2 := (J1.toX (lo := x) (hi := x + 581) (fun a j z => by have := z.1; have := z.2; omega)).trans (J2.toX (fun a j z => by omega))
    have tail : ∀ (A' : ZA) (g3 : ZS) (c' : Nat), AI A' c' → CJ x g3 A' → ad A' = (tS A l K).2 → zX x (x + 581) g g3 → tR A l = sR A' [tFl A l, wL (tS A l K).2] → zW (f_X11_holdTrial_86 N x (nI K) st g3) (fun o => o.1 = nI (tK A l) ∧ zX x (x + 581) g o.2 ∧ CJ x o.2 (tR A l) ∧ XR o.2 (x + 3) (x + 4) (aR (tR A l))) := by
      intro A' g3 c' hA' C3 hd Z3 htR
      unfold f_X11_holdTrial_86 f_X11_holdTrial_99
      refine w_rdR C3.1.s0 C3.1.r0_1 ?_
      have e2 : zgi g3 (x + 23) 2 = nI (tS A l K).2 := by rw [← hd]; exact C3.2.2.2.2.2.1.1.2.1
      have go : ∀ fl : Int64, fl = tFl A l → zW ((zrdR g3 x 11 6).bind fun v1 => (zrdI g3 v1 6 2).bind fun v2 => zvs g3 (x + 3) 9 <| (f_X9_pair (x + 3) fl v2.toInt64 g3).bind fun g3 => some (nI K, g3)) (fun o => o.1 = nI (tK A l) ∧ zX x (x + 581) g o.2 ∧ CJ x o.2 (tR A l) ∧ XR o.2 (x + 3) (x + 4) (aR (tR A l))) := by
        intro fl hfl
        refine w_rdR C3.1.s0 C3.1.r0_6 (w_rdI C3.1.SL23.f.1 e2 (w_vs C3.1.s3 ?_))
        refine (s_pair ⟨C3.1.s3, C3.1.s4, C3.1.r3_0⟩).bind (fun g4 h4 => ?_)
        rw [zW_some, htR, ← hfl, hK]
        exact ⟨rfl, Z3.trans (h4.1.toX (fun a j z => by omega)), C3.keep hA' h4.1 (fun a j z => by omega), by rw [hK] at h4; exact h4.2⟩
      by_cases e : K < tN l
      · rw [hst, if_pos e, if_neg (show ¬ nI 1 = 0 by decide)]
        exact go _ (by unfold tFl; rw [← hK, if_pos e])
      · rw [hst, if_neg e, if_pos (show nI 0 = 0 from rfl)]
        exact go _ (by unfold tFl; rw [← hK, if_neg e])
    unfold f_X11_holdTrial_71
    by_cases e0 : K = 0
    · rw [if_pos (show nI K ≤ 0 by rw [e0]; decide)]
      rw [e0] at C2
      refine tail A g2 c hA C2 (by rw [e0]; rfl) Z2 ?_
      unfold tR
      rw [← hK, if_pos e0]
    · rw [if_neg (show ¬ nI K ≤ 0 from nI_ge (show 0 < K by omega) (by omega))]
      have hadc := hA.1.2.2.2
      have hend2 : tP l K ≤ 60 := by
        by_cases e : K = tN l
        · rw [e]; exact h60
        · obtain ⟨hlt, hga⟩ := hg K (by omega)
          have := (of_decide_eq_true hga).1; omega
      refine c_past (l := aR A) (d := (tS A l K).2) (B := (tS A l K).1) hN C1 hA i1 (by omega) (J2.mono (fun a j z => by omega)) C2.2.2.2.2.2.1 (S1.keep n6 J2 (fun a j z => by have := z.1; have := z.2; omega)) X2 (fun g3 Z3 C3 X3 => ?_)
      refine tail (sX A (tS A l K).1 (tS A l K).2) g3 (c + 1) (hA.setX i1 (by omega)) C3 rfl (Z2.trans Z3) ?_
      unfold tR
      rw [← hK, if_neg e0]
  refine zW_for (fun i (s : Int32 × Int32 × Int32 × ZS) => (i ≤ K → s.1 = nI i ∧ s.2.1 = nI 0 ∧ s.2.2.1 = nI (tP l i) ∧ CJ x s.2.2.2 (sS A (tS A l i).1 (tS A l i).2)) ∧ (K < i → s.1 = nI K ∧ s.2.1 = nI 1 ∧ K < tN l ∧ CJ x s.2.2.2 (sS A (tS A l K).1 (tS A l K).2)) ∧ zJ (SAc x) g1 s.2.2.2) (if K < tN l then K + 1 else K) (fun i s hi hs => ?_) (fun s hs => ?_) (by split <;> omega) (Nat.zero_le _) ⟨fun _ => ⟨rfl, rfl, rfl, C1⟩, fun h => absurd h (Nat.not_lt_zero K), zJ.rfl⟩
  · obtain ⟨y1, y2, y3, g2⟩ := s
    obtain ⟨a1, -, J2⟩ := hs
    dsimp only at a1 J2
    have hiK : i ≤ K := by split at hi <;> omega
    have hiN : i < tN l := by split at hi <;> omega
    obtain ⟨h1, h2, h3, C2⟩ := a1 hiK
    subst h1 h2 h3
    obtain ⟨hlt, hga⟩ := hg i hiN
    obtain ⟨i1, i2, i3⟩ := hI i (by omega)
    have T2 : XT g2 (x + 1) (x + 2) l := T1.keep J2 (by omega) (fun j => by omega)
    have hP60 : tP l i < 60 := (of_decide_eq_true hga).1
    have hc256 := hT.c256 (tP l i)
    have t13 := ta_13 (c := l.getD (tP l i) 0)
    show zW (f_X11_holdTrial_17 N x (nI i) (nI 0) (nI (tP l i)) g2) _
    unfold f_X11_holdTrial_17 f_X11_holdTrial_48
    refine w_rdR C2.1.s0 C2.1.r0_0 (w_rdI T2.1 T2.2.2.2.1 ?_)
    rw [if_neg (nI_ge hlt (by omega)), if_pos (show nI 0 = 0 from rfl)]
    refine w_vs C2.1.s0 ((c_actAt hN C2 i3 T2 hlt hga (show (tS A l i).2 ≤ 1000000 by omega)).bind (fun o ho => ?_))
    obtain ⟨z, g3⟩ := o
    obtain ⟨J3, oy, on⟩ := ho
    dsimp only at J3 oy on ⊢
    have T3 : XT g3 (x + 1) (x + 2) l := T2.keep J3 (by omega) (fun j => by omega)
    have step : ∀ (d s : Int32) (P : (Int32 × Int32 × Int32 × ZS) ⊕ (Int32 × ZS) → Prop), (∀ A', CJ x g3 A' → P (.inl (d, s, nI (tP l (i + 1)), g3)) → zW ((zrdR g3 x 11 0).bind fun v1 => zvs g3 v1 8 <| (f_X8_at v1 (nI (tP l i)) g3).bind fun v2 => (f_X11_signsBehind v2).bind fun v3 => (f_J9_max_7cf53 (0 : Int32) v3).bind fun v4 => some (.inl (d, s, nI (tP l i) + ((1 : Int32) + v4), g3))) P) := by
      intro d s P A' C3 hP
      refine w_rdR C3.1.s0 C3.1.r0_0 (w_vs T3.1 (w_eq (e_at T3 (by omega)) (w_eq (e_signs hc256) ?_)))
      have hia := (of_decide_eq_true hga).2.1
      rw [if_pos hia, mx]
      have hmax : (if (0 : Int32) < nI (ta (l.getD (tP l i) 0) - 1) then nI (ta (l.getD (tP l i) 0) - 1) else (0 : Int32)) = nI (ta (l.getD (tP l i) 0) - 1) := by
        rw [c_0]
        by_cases e : 0 < ta (l.getD (tP l i) 0) - 1
        · rw [if_pos (nI_lt e (by omega))]
        · rw [if_neg (nI_nlt (by omega) (by omega)), show ta (l.getD (tP l i) 0) - 1 = 0 by omega]
      rw [hmax, Option.bind_some, c_1, nI_add, nI_add, show tP l i + (1 + (ta (l.getD (tP l i) 0) - 1)) = tP l (i + 1) from by show _ = tP l i + ta (l.getD (tP l i) 0); omega, zW_some]
      exact hP
    by_cases eK : i < K
    · obtain ⟨B, d, e1, e2⟩ := ky i eK
      obtain ⟨o1, C3⟩ := oy B d e1
      rw [if_pos o1]
      refine step _ _ _ _ C3 ?_
      rw [zI_inl, c_1, nI_add]
      refine ⟨fun _ => ⟨rfl, rfl, rfl, ?_⟩, fun h => by omega, J2.trans J3⟩
      rw [e2]; exact C3
    · have eiK : i = K := by omega
      subst eiK
      obtain ⟨o1, C3⟩ := on (kx hiN)
      rw [if_neg o1]
      refine step _ _ _ _ C3 ?_
      rw [zI_inl]
      exact ⟨fun h => by omega, fun _ => ⟨rfl, rfl, hiN, C3⟩, J2.trans J3⟩
  · obtain ⟨y1, y2, y3, g2⟩ := s
    obtain ⟨a1, a2, J2⟩ := hs
    dsimp only at a1 a2 J2
    have T2 : XT g2 (x + 1) (x + 2) l := T1.keep J2 (by omega) (fun j => by omega)
    show zW (f_X11_holdTrial_17 N x y1 y2 y3 g2) _
    unfold f_X11_holdTrial_17
    by_cases e : K < tN l
    · rw [if_pos e] at a1 a2
      obtain ⟨h1, h2, -, C2⟩ := a2 (by omega)
      subst h1 h2
      refine w_rdR C2.1.s0 C2.1.r0_0 (w_rdI T2.1 T2.2.2.2.1 ?_)
      rw [if_neg (show ¬ nI 1 = 0 by decide)]
      have hf := fin (nI 1) g2 (by rw [if_pos e]) J2 C2
      by_cases e3 : nI l.length ≤ y3
      · rw [if_pos e3, zW_map]; exact hf
      · rw [if_neg e3, zW_map]; exact hf
    · rw [if_neg e] at a1 a2
      obtain ⟨h1, h2, h3, C2⟩ := a1 (Nat.le_refl _)
      subst h1 h2 h3
      have hKn : K = tN l := by omega
      refine w_rdR C2.1.s0 C2.1.r0_0 (w_rdI T2.1 T2.2.2.2.1 ?_)
      rw [if_pos (nI_le (by rw [hKn, hok]; exact Nat.le_refl _) (by rw [hKn, hok]; omega)), zW_map]
      exact fin (nI 0) g2 (by rw [if_neg e]) J2 C2
theorem r_hold (hN : 10000 ≤ N) (hR : RJ m g A) (hA : AI A c) (hc : c < 512) (h80 : l.length ≤ 80) (hat : ∀ i, i < tN l → AtA g m l i) : zW ((zrdR g m 12 0).bind fun v2 => (zrdR g m 12 27).bind fun v3 => (f_X12_lay N v2 v3 (0 : Int32) g).bind fun g4 => zloop (fun s => f_X12_trial_72 N m (nI (tN l)) s.1 s.2) N ((0 : Int32), g4)) (fun o => o.1 = nI (tK A l) ∧ zX m (m + 33) g o.2 ∧ RJ m o.2 (tR A l) ∧ RW o.2 m (aR (tR A l))) := by
  have n6 := hA.1.1
  have hbd := bnd hA hc
  obtain ⟨n80, hg, hend, h60, hbad⟩ := tN_spec h80
  have hI := tI hA h80
  obtain ⟨kn, ky, kx⟩ := tK_spec (A := A) (l := l)
  obtain ⟨K, hK⟩ : ∃ K, K = tK A l := ⟨_, rfl⟩
  rw [← hK] at kn ky kx
  refine w_rdR hR.1.s0 hR.1.r0 (w_rdR hR.1.s0 hR.1.r27 ?_)
  rw [c_0]
  refine (s_lay (k := 0) hN hR.1.s1 hR.1.s16 (by omega) (by omega) (by omega)).bind (fun g1 h1 => ?_)
  obtain ⟨J1', e1⟩ := h1
  have J1 : zJ (fun a _ => a = m + 16) g g1 := J1'.mono (fun a j z => z.1)
  have R1 := hR.keep hA (J1.toM (m := m)) (fun a j z => by omega)
  have S1 : RN g1 (m + 16) (an A) (ad A) (aB A) := hR.2.2.2.2.2.2.1.2.2.cp n6 e1
  have hat1 : ∀ i, i < tN l → AtA g1 m l i := fun i hi => by
    obtain ⟨k1, k2, k3⟩ := hat i hi
    exact ⟨by rw [J1.gi (by omega)]; exact k1, fun h => by rw [J1.gi (by omega)]; exact k2 h, fun h => by rw [J1.gi (by omega)]; exact k3 h⟩
  have fin : ∀ g2 : ZS, zM m (fun a j => SY m (m + 12) a j ∨ a = m + 1) g1 g2 → RJ m g2 (sS A (tS A l K).1 (tS A l K).2) → zW (f_X12_trial_118 N m (nI (tN l)) (nI K) g2) (fun o => o.1 = nI (tK A l) ∧ zX m (m + 33) g o.2 ∧ RJ m o.2 (tR A l) ∧ RW o.2 m (aR (tR A l))) := by
    intro g2 J2 R2
    obtain ⟨i1, i2, i3⟩ := hI K kn
    have Z2 := (J1.toX (lo := m) (hi := m + 33) (fun a j z => by omega)).trans (J2.toX (fun a j z => by omega) (by omega))
    have tail : ∀ (A' : ZA) (g3 : ZS) (c' : Nat), AI A' c' → RJ m g3 A' → ad A' = (tS A l K).2 → zX m (m + 33) g g3 → tR A l = sR A' [tFl A l, wL (tS A l K).2] → zW (f_X12_trial_130 N m (nI (tN l)) (nI K) g3) (fun o => o.1 = nI (tK A l) ∧ zX m (m + 33) g o.2 ∧ RJ m o.2 (tR A l) ∧ RW o.2 m (aR (tR A l))) := by
      intro A' g3 c' hA' R3 hd Z3 htR
      unfold f_X12_trial_130 f_X12_trial_146
      rw [p_wrI R3.1.s0, Option.bind_some]
      have J4 : zJ (SW m) g3 (zsetI g3 m 9 0) := zJ.setI (Or.inl ⟨rfl, rfl⟩)
      have R4 := R3.keep hA' (J4.toM (m := m)) (fun a j z => by omega)
      have go : ∀ fl : Int64, fl = tFl A l → zW (zvs (zsetI g3 m 9 0) m 12 <| (f_X12_tell m fl (zsetI g3 m 9 0)).bind fun g1 => (zrdR g1 m 12 0).bind fun v2 => (zald 20 g1 v2 (216 : Int32)).bind fun v3 => zvs g1 m 12 <| (f_X12_tell m v3.toInt64 g1).bind fun g4 => some (nI K, g4)) (fun o => o.1 = nI (tK A l) ∧ zX m (m + 33) g o.2 ∧ RJ m o.2 (tR A l) ∧ RW o.2 m (aR (tR A l))) := by
        intro fl hfl
        refine w_vs R4.1.s0 ((s_tell R4.1 RW.zero (by simp)).bind (fun g5 h5 => ?_))
        have R5 := R4.keep hA' (h5.1.toM (m := m)) (fun a j z => by omega)
        refine w_rdR R5.1.s0 R5.1.r0 ?_
        rw [show (216 : Int32) = nI 216 from rfl, a20_217 R5.1.s1 (by omega), show zgi g5 (m + 1) 216 = nI (tS A l K).2 from by rw [← hd]; exact R5.2.2.2.2.2.2.1.2.2.1, Option.bind_some]
        refine w_vs R5.1.s0 ((s_tell R5.1 h5.2 (by simp)).bind (fun g6 h6 => ?_))
        have R6 := R5.keep hA' (h6.1.toM (m := m)) (fun a j z => by omega)
        rw [zW_some, htR, ← hfl, hK]
        rw [hK] at h6
        exact ⟨rfl, ((Z3.trans (J4.toX (fun a j z => by omega))).trans (h5.1.toX (fun a j z => by omega))).trans (h6.1.toX (fun a j z => by omega)), R6, h6.2⟩
      by_cases e : K < tN l
      · rw [if_neg (nI_ge e (by omega))]
        exact go _ (by unfold tFl; rw [← hK, if_pos e])
      · rw [if_pos (nI_le (by omega) (by omega))]
        exact go _ (by unfold tFl; rw [← hK, if_neg e])
    unfold f_X12_trial_118
    by_cases e0 : K = 0
    · rw [if_pos (show nI K ≤ 0 by rw [e0]; decide)]
      rw [e0] at R2
      refine tail A g2 c hA R2 (by rw [e0]; rfl) Z2 ?_
      unfold tR
      rw [← hK, if_pos e0]
    · rw [if_neg (show ¬ nI K ≤ 0 from nI_ge (show 0 < K by omega) (by omega))]
      have hadc := hA.1.2.2.2
      have hend2 : tP l K ≤ 60 := by
        by_cases e : K = tN l
        · rw [e]; exact h60
        · obtain ⟨hlt, hga⟩ := hg K (by omega)
          have := (of_decide_eq_true hga).1; omega
      have S2 : RN g2 (m + 16) (an A) (ad A) (aB A) := S1.keepM n6 J2 (fun j _ => by omega)
      refine w_rdR R2.1.s0 R2.1.r27 (w_vs R2.1.s0 ?_)
      refine (s_remember hN R2.1 R2.1.s16 R2.2.2.2.2.2.2.2.1 S2 n6 (by omega)).bind (fun g3 h3 => ?_)
      refine tail (sX A (tS A l K).1 (tS A l K).2) g3 (c + 1) (hA.setX i1 (by omega)) (R2.setU i3 (h3.1.toM.mono (fun a j z => by omega)) h3.2) rfl (Z2.trans (h3.1.toX (fun a j z => by omega))) ?_
      unfold tR
      rw [← hK, if_neg e0]
  refine zW_forI (fun i g' => zM m (fun a j => SY m (m + 12) a j ∨ a = m + 1) g1 g' ∧ RJ m g' (sS A (tS A l i).1 (tS A l i).2)) K (fun i g2 hi hI2 => ?_) (fun g2 hI2 => ?_) (by omega) (Nat.zero_le _) ⟨zM.rfl, R1⟩
  · obtain ⟨J2, R2⟩ := hI2
    obtain ⟨hlt, hga⟩ := hg i (by omega)
    obtain ⟨i1, i2, i3⟩ := hI i (by omega)
    obtain ⟨k1, k2, k3⟩ := hat1 i (by omega)
    obtain ⟨B, d, e1, e2⟩ := ky i hi
    have hP60 : tP l i < 60 := (of_decide_eq_true hga).1
    show zW (f_X12_trial_72 N m (nI (tN l)) (nI i) g2) _
    unfold f_X12_trial_72
    rw [if_neg (nI_ge (by omega) (by omega)), c_3, c_1, c_2, nI_mul, nI_add, nI_add]
    refine w_rdR R2.1.s0 R2.1.r29 ?_
    rw [a20_240 R2.1.s18 (by omega), J2.gi (by omega), k1, Option.bind_some]
    refine w_rdR R2.1.s0 R2.1.r29 ?_
    rw [a20_240 R2.1.s18 (by omega), Option.bind_some]
    refine w_rdR R2.1.s0 R2.1.r29 ?_
    rw [a20_240 R2.1.s18 (by omega), Option.bind_some]
    refine w_vs R2.1.s0 ((r_act hN R2 i3 hga (show (tS A l i).2 ≤ 1000000 by omega) (fun h => by rw [J2.gi (by omega)]; exact k2 h) (fun h => by rw [J2.gi (by omega)]; exact k3 h)).bind (fun o ho => ?_))
    obtain ⟨z, g3⟩ := o
    obtain ⟨J3, oy, on⟩ := ho
    dsimp only at J3 oy on ⊢
    obtain ⟨o1, R3⟩ := oy B d e1
    rw [if_neg o1, zW_some, zI_inl, nI_add]
    refine ⟨rfl, J2.trans J3, ?_⟩
    rw [e2]; exact R3
  · obtain ⟨J2, R2⟩ := hI2
    show zW (f_X12_trial_72 N m (nI (tN l)) (nI K) g2) _
    unfold f_X12_trial_72
    by_cases e : K < tN l
    · obtain ⟨hlt, hga⟩ := hg K e
      obtain ⟨i1, i2, i3⟩ := hI K kn
      obtain ⟨k1, k2, k3⟩ := hat1 K e
      have hP60 : tP l K < 60 := (of_decide_eq_true hga).1
      rw [if_neg (nI_ge e (by omega)), c_3, c_1, c_2, nI_mul, nI_add, nI_add]
      refine w_rdR R2.1.s0 R2.1.r29 ?_
      rw [a20_240 R2.1.s18 (by omega), J2.gi (by omega), k1, Option.bind_some]
      refine w_rdR R2.1.s0 R2.1.r29 ?_
      rw [a20_240 R2.1.s18 (by omega), Option.bind_some]
      refine w_rdR R2.1.s0 R2.1.r29 ?_
      rw [a20_240 R2.1.s18 (by omega), Option.bind_some]
      refine w_vs R2.1.s0 ((r_act hN R2 i3 hga (show (tS A l K).2 ≤ 1000000 by omega) (fun h => by rw [J2.gi (by omega)]; exact k2 h) (fun h => by rw [J2.gi (by omega)]; exact k3 h)).bind (fun o ho => ?_))
      obtain ⟨z, g3⟩ := o
      obtain ⟨J3, oy, on⟩ := ho
      dsimp only at J3 oy on ⊢
      obtain ⟨o1, R3⟩ := on (kx e)
      rw [if_pos o1, zW_map]
      exact fin g3 (J2.trans J3) R3
    · rw [if_pos (nI_le (by omega) (by omega)), zW_map]
      exact fin g2 J2 R2
theorem tR_AI (hA : AI A c) (h80 : l.length ≤ 80) : AI (tR A l) (c + 1) := by
  obtain ⟨n80, hg, hend, h60, hbad⟩ := tN_spec h80
  obtain ⟨kn, ky, kx⟩ := tK_spec (A := A) (l := l)
  obtain ⟨i1, i2, i3⟩ := tI hA h80 (tK A l) kn
  have hadc := hA.1.2.2.2
  have hend2 : tP l (tK A l) ≤ 60 := by
    by_cases e : tK A l = tN l
    · rw [e]; exact h60
    · obtain ⟨hlt, hga⟩ := hg (tK A l) (by omega)
      have := (of_decide_eq_true hga).1; omega
  unfold tR
  by_cases e0 : tK A l = 0
  · rw [if_pos e0]; exact (hA.mono (Nat.le_succ c)).row (by simp)
  · rw [if_neg e0]; exact (hA.setX i1 (by omega)).row (by simp)
theorem k_trial (hN : 10000 ≤ N) : Call (fun x g => f_X11_trial N x g) (fun m g => f_X12_trial N m g) := call_s (fun x m c g A hC hA hc => by
  have n6 := hA.1.1
  have h80 := hA.2.2.1
  have h256 := hA.2.2.2.1
  have hL := hC.1.1
  obtain ⟨l, hl⟩ : ∃ l, l = aT A := ⟨_, rfl⟩
  rw [← hl] at h80 h256
  have hXT : XT g (x + 1) (x + 2) l := by rw [hl]; exact hC.1.2.1
  obtain ⟨n80, hg, hend, h60, hbad⟩ := tN_spec h80
  have ebad := e_badT hN hC.1 hXT
  unfold tV at ebad
  by_cases hok : tP l (tN l) = l.length
  · rw [if_pos hok] at ebad
    refine ⟨nI (tK A l), sT (tR A l) [], (tR_AI hA h80).noT, ?_, fun g' hR => ?_⟩
    · unfold Cc f_X11_trial f_X11_trial_20
      refine w_vs hL.s0 (w_eq ebad ?_)
      rw [if_pos rfl]
      refine w_vs hL.s0 ((c_hold hN hC hA hc hXT hok).bind (fun o ho => ?_))
      obtain ⟨o1, Z2, C2, X2⟩ := ho
      refine (c_noText (r := o.1) C2 X2 (tR_AI hA h80)).mono (fun o' h' => ?_)
      exact ⟨h'.1.trans o1, Z2.trans h'.2.1, h'.2.2⟩
    · unfold Rc f_X12_trial
      refine r_start hR hA (fun g1 J0 hR1 _ => ?_)
      have hRT : RT g1 m l := by rw [hl]; exact hR1.1.2.2.2.1
      refine w_vs hR1.1.1.s0 ?_
      rw [c_60]
      refine (s_beginText hR1.1.1 hRT (by omega)).bind (fun g2 h2 => ?_)
      obtain ⟨JB, D2, e14, e15, e7⟩ := h2
      have R2 : RI m g2 (sT A []) := r_noText hR1 hA JB (fun a j z => Or.inl z) e7
      have Z2 := (J0.toX (fun a j z => scm_in z) (show m ≤ m ∧ m < m + 33 by omega)).trans (JB.toX (hi := m + 33) (fun a j z => by omega) (by omega))
      refine r_acts hN R2.1.1 D2 h80 e14 e15 (fun _ g3 J3 hat => ?_) (fun h => absurd hok h)
      have R3 := R2.1.keep hA.noT (J3.toM (m := m)) (fun a j z => by omega)
      refine (r_hold (A := sT A []) hN R3 hA.noT hc h80 hat).mono (fun o ho => ?_)
      obtain ⟨o1, Z4, R4, W4⟩ := ho
      have hS : ∀ i, tS (sT A []) l i = tS A l i := fun i => by
        induction i with
        | zero => rfl
        | succ i ih =>
          show (aS (sS (sT A []) (tS (sT A []) l i).1 (tS (sT A []) l i).2) l (tP l i)).getD (tS (sT A []) l i) = (aS (sS A (tS A l i).1 (tS A l i).2) l (tP l i)).getD (tS A l i)
          rw [ih]; rfl
      have hKe : tK (sT A []) l = tK A l := by
        unfold tK
        congr 1
        funext i
        rw [hS]; rfl
      have hR' : tR (sT A []) l = sT (tR A l) [] := by
        unfold tR tFl
        rw [hKe, hS]
        by_cases e0 : tK A l = 0
        · rw [if_pos e0, if_pos e0]
        · rw [if_neg e0, if_neg e0]
      rw [hR'] at R4 W4
      rw [hKe] at o1
      exact ⟨o1, (Z2.trans (J3.toX (fun a j z => by omega))).trans Z4, R4, W4⟩
  · rw [if_neg hok] at ebad
    have hf : fA l (tP l (tN l)) ≤ 62 := by unfold fA; split; exact Nat.le_trans h60 (by omega); split <;> omega
    refine ⟨(-1 : Int32) - nI (fA l (tP l (tN l))), sT A [], hA.noT.mono (Nat.le_succ c), ?_, fun g' hR => ?_⟩
    · unfold Cc f_X11_trial f_X11_trial_20
      refine w_vs hL.s0 (w_eq ebad ?_)
      rw [if_neg (fun h' => (neg1_ne (by omega)).mp h')]
      exact c_noText hC.1 hC.2 hA
    · unfold Rc f_X12_trial
      refine r_start hR hA (fun g1 J0 hR1 _ => ?_)
      have hRT : RT g1 m l := by rw [hl]; exact hR1.1.2.2.2.1
      refine w_vs hR1.1.1.s0 ?_
      rw [c_60]
      refine (s_beginText hR1.1.1 hRT (by omega)).bind (fun g2 h2 => ?_)
      obtain ⟨JB, D2, e14, e15, e7⟩ := h2
      have R2 : RI m g2 (sT A []) := r_noText hR1 hA JB (fun a j z => Or.inl z) e7
      have Z2 := (J0.toX (fun a j z => scm_in z) (show m ≤ m ∧ m < m + 33 by omega)).trans (JB.toX (hi := m + 33) (fun a j z => by omega) (by omega))
      refine r_acts hN R2.1.1 D2 h80 e14 e15 (fun h => absurd h hok) (fun _ g3 J3 => ?_)
      exact ⟨rfl, Z2.trans (J3.toX (fun a j z => by omega)), R2.1.keep hA.noT (J3.toM (m := m)) (fun a j z => by omega), R2.2.keepM (J3.toM (m := m)) (by omega) (fun j => by omega)⟩)
end TC
