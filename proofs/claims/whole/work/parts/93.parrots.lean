/-! ===== parrots ===== -/
def pst (l : List Nat) (n p : Nat) : Bool := if p % 3 = 0 then decide (48 ≤ l.getD p 0 ∧ l.getD p 0 ≤ 51 ∧ n + p / 3 < 6) else if p % 3 = 1 then decide (49 ≤ l.getD p 0 ∧ l.getD p 0 ≤ 56) else decide (l.getD p 0 = 59)
def pbd (l : List Nat) (n p : Nat) : Bool := decide (17 ≤ p) || !pst l n p
def pq (l : List Nat) (n : Nat) : Nat := zleast (pbd l n) l.length 0
theorem pbd_f {l : List Nat} {n p : Nat} (h : pbd l n p = false) : p < 17 ∧ pst l n p = true := by
  unfold pbd at h
  have h1 := (Bool.or_eq_false_iff.mp h).1
  have h2 := (Bool.or_eq_false_iff.mp h).2
  refine ⟨by have := of_decide_eq_false h1; omega, ?_⟩
  cases e : pst l n p with
  | true => rfl
  | false => rw [e] at h2; cases h2
theorem pbd_t {l : List Nat} {n p : Nat} (h : pbd l n p = true) (hp : p < 17) : pst l n p = false := by
  unfold pbd at h
  rw [decide_eq_false (by omega), Bool.false_or] at h
  cases e : pst l n p with
  | false => rfl
  | true => rw [e] at h; cases h
theorem pq_spec (l : List Nat) (n : Nat) : pq l n ≤ l.length ∧ pq l n ≤ 17 ∧ (∀ p, p < pq l n → pst l n p = true) ∧ (pq l n < l.length → pq l n < 17 → pst l n (pq l n) = false) := by
  obtain ⟨h1, h2, h3, h4⟩ := zleast_spec (pbd l n) l.length 0
  refine ⟨by unfold pq; omega, ?_, fun p hp => (pbd_f (h3 p (Nat.zero_le _) hp)).2, fun h5 h6 => pbd_t (h4 (by unfold pq at h5; omega)) h6⟩
  by_cases e : pq l n = 0
  · omega
  · have := (pbd_f (h3 (pq l n - 1) (Nat.zero_le _) (by unfold pq at e ⊢; omega))).1
    omega
theorem pst0 {l : List Nat} {n i : Nat} : pst l n (3 * i) = decide (48 ≤ l.getD (3 * i) 0 ∧ l.getD (3 * i) 0 ≤ 51 ∧ n + i < 6) := by
  unfold pst
  rw [if_pos (by omega), show 3 * i / 3 = i by omega]
theorem pst1 {l : List Nat} {n i : Nat} : pst l n (3 * i + 1) = decide (49 ≤ l.getD (3 * i + 1) 0 ∧ l.getD (3 * i + 1) 0 ≤ 56) := by
  unfold pst
  rw [if_neg (by omega), if_pos (by omega)]
theorem pst2 {l : List Nat} {n i : Nat} : pst l n (3 * i + 2) = decide (l.getD (3 * i + 2) 0 = 59) := by
  unfold pst
  rw [if_neg (by omega), if_neg (by omega)]
section PA
variable {N x m c : Nat} {g g' : ZS} {A : ZA} {l : List Nat}
theorem dgv_y {k : Nat} (h1 : 48 ≤ k) (h2 : k ≤ 57) : dgv k = nI (k - 48) := by
  unfold dgv dg10
  rw [decide_eq_true ⟨h1, h2⟩, if_pos rfl]
theorem e_stands {p : Nat} (hC : CJ x g A) (hA : AI A c) (hT : XT g (x + 1) (x + 2) l) (hp : p < 17) : f_X11_standsInParrots x (nI p) g = some (bI (pst l (an A) p)) := by
  have n6 := hA.1.1
  have hc := hT.c256 p
  unfold f_X11_standsInParrots f_X11_standsInParrots_44 f_X11_standsInParrots_45 f_X11_standsInParrots_68 f_X11_standsInParrots_69 f_X11_standsInParrots_88
  rw [p_rdR hC.1.s0, hC.1.r0_0, Option.bind_some, p_vs hT.1, e_digitAt hT (by omega), Option.bind_some, c_3, nI_rem (by omega) (by omega), nI_div (by omega) (by omega)]
  unfold pst
  by_cases h0 : p % 3 = 0
  · rw [if_pos h0, if_pos (by rw [h0]; rfl)]
    by_cases h1 : 48 ≤ l.getD p 0 ∧ l.getD p 0 ≤ 57
    · rw [dgv_y h1.1 h1.2, if_neg (nI_pos (by omega))]
      by_cases h2 : 4 ≤ l.getD p 0 - 48
      · rw [c_4, if_pos (nI_le h2 (by omega)), decide_eq_false (fun h => by omega)]; rfl
      · rw [c_4, if_neg (nI_ge (by omega) (by omega)), p_rdR hC.1.s0, hC.1.r0_6, Option.bind_some, p_rdI hC.1.SL23.f.1, Option.bind_some, hC.2.2.2.2.2.1.1.1, nI_add]
        by_cases h3 : 6 ≤ an A + p / 3
        · rw [c_6, if_pos (nI_le h3 (by omega)), decide_eq_false (fun h => by omega)]; rfl
        · rw [c_6, if_neg (nI_ge (by omega) (by omega)), decide_eq_true ⟨by omega, by omega, by omega⟩]; rfl
    · have hd : dgv (l.getD p 0) = -nI 1 := (dgv_n hc).mpr (decide_eq_false h1)
      rw [hd, if_pos (show -nI 1 < 0 by decide), decide_eq_false (fun h => h1 ⟨h.1, by omega⟩)]; rfl
  · rw [if_neg h0, if_neg (show ¬ nI (p % 3) = 0 from nI_ne0 (by omega) (by omega))]
    by_cases h1 : p % 3 = 1
    · rw [if_pos h1, if_pos (by rw [h1]; rfl)]
      by_cases h2 : 48 ≤ l.getD p 0 ∧ l.getD p 0 ≤ 57
      · rw [dgv_y h2.1 h2.2, c_1]
        by_cases h3 : l.getD p 0 - 48 < 1
        · rw [if_pos (nI_lt h3 (by omega)), decide_eq_false (fun h => by omega)]; rfl
        · rw [if_neg (nI_nlt (by omega) (by omega)), c_8]
          by_cases h4 : 8 < l.getD p 0 - 48
          · rw [if_pos (nI_lt h4 (by omega)), decide_eq_false (fun h => by omega)]; rfl
          · rw [if_neg (nI_nlt (by omega) (by omega)), decide_eq_true ⟨by omega, by omega⟩]; rfl
      · have hd : dgv (l.getD p 0) = -nI 1 := (dgv_n hc).mpr (decide_eq_false h2)
        rw [hd, if_pos (show -nI 1 < 1 by decide), decide_eq_false (fun h => h2 ⟨by omega, by omega⟩)]; rfl
    · rw [if_neg h1, if_neg (show ¬ nI (p % 3) = 1 from fun h => h1 ((nI_eq (b := 1) (by omega) (by omega)).mp h)), Option.bind_some, p_vs hT.1, e_at hT (by omega), Option.bind_some]
      by_cases h2 : l.getD p 0 = 59
      · rw [if_pos (by rw [h2]; rfl), decide_eq_true h2]; rfl
      · rw [if_neg (show ¬ nI (l.getD p 0) = 59 from fun h => h2 ((nI_eq (b := 59) (by omega) (by omega)).mp h)), decide_eq_false h2]; rfl
theorem e_badP (hN : 10000 ≤ N) (hC : CJ x g A) (hA : AI A c) (hT : XT g (x + 1) (x + 2) l) : f_X11_badInParrots N x g = some (if pq l (an A) < l.length then nI (pq l (an A)) else if l.length % 3 = 2 then -1 else nI l.length) := by
  have h80 := hT.2.2.2.2.1
  unfold f_X11_badInParrots pq
  refine loopL (body := fun s => f_X11_badInParrots_2 N x s g) (pbd l (an A)) (fun i => nI i) (if l.length % 3 = 2 then -1 else nI l.length) l.length (fun i hi => ?_) ?_ (by omega)
  · show f_X11_badInParrots_2 N x (nI i) g = _
    unfold f_X11_badInParrots_2 f_X11_badInParrots_27 pbd
    rw [p_rdR hC.1.s0, hC.1.r0_0, Option.bind_some, p_rdI hT.1, Option.bind_some, hT.2.2.2.1, if_neg (nI_ge hi (by omega)), c_17]
    by_cases e : 17 ≤ i
    · rw [if_pos (nI_le e (by omega)), decide_eq_true e]; rfl
    · rw [if_neg (nI_ge (by omega) (by omega)), p_vs hC.1.s0, e_stands hC hA hT (by omega), Option.bind_some, decide_eq_false e, Bool.false_or]
      cases pst l (an A) i with
      | false => rw [if_pos (bI_eq rfl)]; rfl
      | true => rw [if_neg (bI_ne rfl), c_1, nI_add]; rfl
  · show f_X11_badInParrots_2 N x (nI l.length) g = _
    unfold f_X11_badInParrots_2 f_X11_badInParrots_59
    rw [p_rdR hC.1.s0, hC.1.r0_0, Option.bind_some, p_rdI hT.1, Option.bind_some, hT.2.2.2.1, if_pos (nI_le (Nat.le_refl _) (by omega)), Option.bind_some, p_rdI hT.1, Option.bind_some, hT.2.2.2.1, c_3, nI_rem (by omega) (by omega)]
    by_cases e : l.length % 3 = 2
    · rw [if_pos (by rw [e]; rfl), if_pos e]; rfl
    · rw [if_neg (show ¬ nI (l.length % 3) = 2 from fun h => e ((nI_eq (b := 2) (by omega) (by omega)).mp h)), Option.bind_some, p_rdI hT.1, Option.bind_some, hT.2.2.2.1, if_neg e]; rfl
/-! the new state -/
def pme (A : ZA) (l : List Nat) : Nat → Nat := fun p => if p < an A then ame A p else l.getD (3 * (p - an A) + 1) 0 - 48
def pB (A : ZA) (l : List Nat) : Nat → ZB := fun p => if p < an A then aB A p else mvB b0 (l.getD (3 * (p - an A)) 0 - 48)
abbrev sC (A : ZA) (n : Nat) (me : Nat → Nat) (B : Nat → ZB) : ZA := ((n, me, B, ad A), A.2.1, A.2.2.1, A.2.2.2.1, [], (aC A + 1, aE A), aP A, aN A)
theorem CS.cong {s k d : Nat} {me me' : Nat → Nat} {B : Nat → ZB} (h : CS g s k d me B) (e : ∀ p, p < k → me' p = me p) : CS g s k d me' B := ⟨h.1, h.2.1, fun p hp => ⟨(h.2.2 p hp).1, by rw [e p hp]; exact (h.2.2 p hp).2⟩⟩
theorem CJ.come {n : Nat} {me : Nat → Nat} {B : Nat → ZB} (h : CJ x g A) (hA : AI A c) (hJ : zJ (fun a j => x + 23 ≤ a ∧ a < x + 55 ∨ a = x + 87 ∧ j = 1) g g') (hme : ∀ p, p < an A → me p = ame A p) (hn : CS g' (x + 23) n (ad A) me B ∧ ∀ p, n ≤ p → p < 6 → CB g' (x + 23 + 2 + 5 * p) b0) (h87 : zgi g' (x + 87) 1 = nI 0) : CJ x g' (sC A n me B) := by
  obtain ⟨h1, h2, h3, h4, ⟨r, r', h5, h6, h7, h8⟩, ⟨h9, h10⟩, ⟨h11, σ, h12, h13, h14⟩, h15, h16, h17⟩ := h
  obtain ⟨⟨n6, -⟩, -, -, -, -, -, ⟨u12, -⟩, ⟨-, hE⟩, -⟩ := hA
  refine ⟨by rw [hJ.1]; exact h1, h2.keep hJ (by omega) (fun j => by omega), h3.keep hJ (fun a j _ _ => by omega), fun w hw => by rw [hJ.gi (by omega)]; exact h4 w hw, ⟨r, r', h5, by rw [hJ.gr]; exact h6, by rw [hJ.gr]; exact h7, h8.keep hJ (by omega) (fun j => by omega)⟩, hn, ⟨h87, σ, fun i hi => ⟨(h12 i hi).1, by rw [hJ.gr]; exact (h12 i hi).2⟩, h13, fun i hi => absurd hi (Nat.not_lt_zero i)⟩, fun i hi => ⟨by rw [hJ.gi (by omega)]; exact (h15 i hi).1, fun u k q e => ?_⟩, h16.keep hJ (by omega) (fun i => by omega), h17.keep hJ (by omega) (fun i => by omega)⟩
  have hk := (hE i hi u k q e).2.1
  exact (((h15 i hi).2 u k q e).keep (by omega) hJ (fun a j z => by have := z.1; have := z.2; omega)).cong (fun p hp => hme p (by omega))
theorem RJ.come {n : Nat} {me : Nat → Nat} {B : Nat → ZB} (h : RJ m g A) (hA : AI A c) (hJ : zM m (fun a j => ScM m a j ∨ a = m ∧ (j = 1 ∨ j = 26 ∨ j = 44) ∨ a = m + 1 ∨ a = m + 2) g g') (hn : zgi g' m 1 = nI n ∧ (∀ p, p < n → zgi g' (m + 2) p = nI (me p)) ∧ RN g' (m + 1) n (ad A) B) (h26 : zgi g' m 26 = nI 0) (h44 : zgi g' m 44 = nI (aC A + 1)) : RJ m g' (sC A n me B) := by
  obtain ⟨h1, h18, h2, h3, h4, h5, -, h9, ⟨h10, h11⟩, h12, h13⟩ := h
  obtain ⟨⟨n6, -⟩, -, -, -, -, -, ⟨u12, -⟩, ⟨-, hE⟩, -⟩ := hA
  exact ⟨h1.M hJ, by rw [hJ.gr (by omega)]; exact h18, h2.keepM hJ (by omega) (fun j => by omega), h3.keepM hJ (by omega) (fun j => by omega), h4.keepM hJ (fun j => ⟨by omega, by omega⟩), fun w hw => by rw [hJ.gi (by omega)]; exact h5 w hw, hn, ⟨h26, Nat.zero_le _, fun i hi => absurd hi (Nat.not_lt_zero i)⟩, ⟨h44, fun i hi => ⟨by rw [hJ.gi (by omega)]; exact (h11 i hi).1, fun u k q e => ⟨by rw [hJ.gi (by omega)]; exact ((h11 i hi).2 u k q e).1, ((h11 i hi).2 u k q e).2.keepM (by have := (hE i hi u k q e).2.1; omega) hJ (fun j => by omega)⟩⟩⟩, h12.keepM hJ (by omega) (fun i => ⟨by omega, by omega⟩), h13.keepM hJ (by omega) (fun i => ⟨by omega, by omega⟩)⟩
theorem AI.come {n : Nat} {me : Nat → Nat} {B : Nat → ZB} (h : AI A c) (hn : an A < n) (hn6 : n ≤ 6) (hme : ∀ p, p < n → 1 ≤ me p ∧ me p ≤ 8) (hB : SI n B) : AI (sC A n me B) c := by
  obtain ⟨⟨a1, a2, a3, a4⟩, a5, a6, a7, a8, a9, ⟨a10, a11⟩, ⟨a12, a13⟩, a14, a15⟩ := h
  refine ⟨⟨hn6, hme, hB, a4⟩, a5, a6, a7, a8, a9, ⟨by show ([] : List ZU).length ≤ 12; simp, fun i hi => absurd hi (Nat.not_lt_zero i)⟩, ⟨by show aC A + 1 ≤ n; omega, fun i hi u k q e => ?_⟩, a14, a15⟩
  obtain ⟨b1, b2, b3, b4, b5⟩ := a13 i hi u k q e
  exact ⟨by show q ≤ aC A + 1; omega, by show k ≤ n; omega, ⟨fun h => by have h' : q = aC A + 1 := h; omega, fun h => by have h' : k = n := h; omega⟩, b4, b5⟩
theorem b0_BI : BI b0 := ⟨by show 0 < 4; omega, by show 0 ≤ 1; omega, by show 0 ≤ 9999; omega, by show 0 ≤ 8; omega, fun w hw => ⟨Nat.le_refl _, Nat.zero_le _, Nat.zero_le _, Nat.zero_le _⟩⟩
/-! the class -/
theorem s_welcome {s n h me : Nat} (hs : SL (zh g) s) (hn : zgi g s 1 = nI n) (h6 : n < 6) (hb : CB g (s + 2 + 5 * n) b0) : zW (f_X6_welcome s (nI h) (nI me) g) (fun g' => zJ (fun a j => a = s ∧ j = 1 ∨ a = s + 2 + 5 * n) g g' ∧ zgi g' s 1 = nI (n + 1) ∧ CB g' (s + 2 + 5 * n) (mvB b0 h) ∧ zgi g' (s + 2 + 5 * n) 5 = nI me) := by
  obtain ⟨a1, a2, a3, a4⟩ := hs.f
  obtain ⟨a5, a6⟩ := a4 n h6
  have a7 := a6.f.1
  unfold f_X6_welcome f_X6_welcome_45
  refine w_rdI a1 hn ?_
  rw [c_6, if_neg (nI_ge h6 (by omega))]
  refine w_rdR a1 a3 (w_rdI a1 hn ?_)
  rw [a25_6 a2 h6, a5, Option.bind_some, p_wrI a7, Option.bind_some]
  obtain ⟨g1, hg1⟩ : ∃ g1, g1 = zsetI g (s + 2 + 5 * n) 4 (nI h) := ⟨_, rfl⟩
  have J1 : zJ (fun a j => a = s + 2 + 5 * n) g g1 := by rw [hg1]; exact zJ.setI rfl
  have B1 : CB g1 (s + 2 + 5 * n) (mvB b0 h) := by rw [hg1]; exact hb.move
  rw [← hg1]
  have n1 : zgi g1 s 1 = nI n := by rw [J1.gi (by omega)]; exact hn
  refine w_rdR (by rw [J1.sh]; exact a1) (by rw [J1.gr]; exact a3) (w_rdI (by rw [J1.sh]; exact a1) n1 ?_)
  rw [a25_6 (by rw [J1.sh]; exact a2) h6, J1.gr, a5, Option.bind_some, p_wrI (by rw [J1.sh]; exact a7), Option.bind_some]
  obtain ⟨g2, hg2⟩ : ∃ g2, g2 = zsetI g1 (s + 2 + 5 * n) 5 (nI me) := ⟨_, rfl⟩
  have J2 : zJ (fun a j => a = s + 2 + 5 * n ∧ j = 5) g1 g2 := by rw [hg2]; exact zJ.setI ⟨rfl, rfl⟩
  rw [← hg2]
  have B2 : CB g2 (s + 2 + 5 * n) (mvB b0 h) := B1.keepJ J2 (fun a j z y => z.2.2 y)
  have n2 : zgi g2 s 1 = nI n := by rw [J2.gi (by omega)]; exact n1
  refine w_rdI (by rw [J2.sh, J1.sh]; exact a1) n2 ?_
  rw [p_wrI (by rw [J2.sh, J1.sh]; exact a1), Option.bind_some, zW_some, c_1, nI_add]
  have J3 : zJ (fun a j => a = s ∧ j = 1) g2 (zsetI g2 s 1 (nI (n + 1))) := zJ.setI ⟨rfl, rfl⟩
  refine ⟨((J1.mono (fun a j z => by omega)).trans (J2.mono (fun a j z => by omega))).trans (J3.mono (fun a j z => by omega)), by rw [gi_sI, if_pos ⟨rfl, rfl⟩], B2.keepJ J3 (fun a j z y => by have := z.1; omega), ?_⟩
  rw [gi_sI, if_neg (by omega), hg2, gi_sI, if_pos ⟨rfl, rfl⟩]
theorem c_come {k : Nat} (hN : 10000 ≤ N) (hC : CJ x g A) (hA : AI A c) (hT : XT g (x + 1) (x + 2) l) (hk6 : an A + k ≤ 6) (h0 : ∀ i, i < k → 48 ≤ l.getD (3 * i) 0 ∧ l.getD (3 * i) 0 ≤ 57) (h1 : ∀ i, i < k → 48 ≤ l.getD (3 * i + 1) 0 ∧ l.getD (3 * i + 1) 0 ≤ 57) : zW (zloop (fun s => f_X11_readParrots_40 N x (nI k) s.1 s.2) N ((0 : Int32), g)) (fun o => o.1 = nI k ∧ zJ (fun a j => x + 23 ≤ a ∧ a < x + 55 ∨ a = x + 87 ∧ j = 1) g o.2 ∧ CJ x o.2 (sC A (an A + k) (pme A l) (pB A l))) := by
  have n6 := hA.1.1
  have hL := hC.1
  have hS := hC.2.2.2.2.2.1
  have hS0 : CS g (x + 23) (an A + 0) (ad A) (pme A l) (pB A l) := by
    refine ⟨hS.1.1, hS.1.2.1, fun p hp => ?_⟩
    obtain ⟨y1, y2⟩ := hS.1.2.2 p hp
    unfold pme pB
    rw [if_pos (show p < an A from hp), if_pos (show p < an A from hp)]
    exact ⟨y1, y2⟩
  refine zW_forI (fun i g' => zJ (fun a j => x + 23 ≤ a ∧ a < x + 55) g g' ∧ CS g' (x + 23) (an A + i) (ad A) (pme A l) (pB A l) ∧ ∀ p, an A + i ≤ p → p < 6 → CB g' (x + 23 + 2 + 5 * p) b0) k (fun i g2 hi hI => ?_) (fun g2 hI => ?_) (by omega) (Nat.zero_le _) ⟨zJ.rfl, hS0, hS.2⟩
  · obtain ⟨J2, S2, B2⟩ := hI
    have X2 : XT g2 (x + 1) (x + 2) l := hT.keep J2 (by omega) (fun j => by omega)
    have s0 : zsh g2 x = some (11, 0) := by rw [J2.sh]; exact hL.s0
    have r6 : zgr g2 x 6 = some (x + 23) := by rw [J2.gr]; exact hL.r0_6
    have r0 : zgr g2 x 0 = some (x + 1) := by rw [J2.gr]; exact hL.r0_0
    have SL2 : SL (zh g2) (x + 23) := by rw [J2.1]; exact hL.SL23
    show zW (f_X11_readParrots_40 N x (nI k) (nI i) g2) _
    unfold f_X11_readParrots_40
    rw [if_neg (nI_ge hi (by omega)), c_3, c_1, nI_mul, nI_add]
    refine w_rdR s0 r6 (w_rdR s0 r0 (w_vs X2.1 (w_eq (e_digitAt X2 (by omega)) ?_)))
    refine w_rdR s0 r0 (w_vs X2.1 (w_eq (e_digitAt X2 (by omega)) ?_))
    rw [dgv_y (h0 i hi).1 (h0 i hi).2, dgv_y (h1 i hi).1 (h1 i hi).2]
    refine w_vs SL2.f.1 ((s_welcome SL2 S2.1 (by omega) (B2 _ (Nat.le_refl _) (by omega))).bind (fun g3 h3 => ?_))
    obtain ⟨J3, e1, e2, e3⟩ := h3
    rw [zW_some, zI_inl, nI_add]
    refine ⟨rfl, J2.trans (J3.mono (fun a j z => by omega)), ⟨e1, by rw [J3.gi (by omega)]; exact S2.2.1, fun p hp => ?_⟩, fun p hp1 hp2 => (B2 p (by omega) hp2).keepJ J3 (fun a j z y => by have := z.1; have := z.2.1; omega)⟩
    by_cases e : p = an A + i
    · subst e
      unfold pme pB
      rw [if_neg (by omega), if_neg (by omega), show an A + i - an A = i by omega]
      exact ⟨e2, e3⟩
    · obtain ⟨y1, y2⟩ := S2.2.2 p (by omega)
      exact ⟨y1.keepJ J3 (fun a j z y => by have := z.1; have := z.2.1; omega), by rw [J3.gi (by omega)]; exact y2⟩
  · obtain ⟨J2, S2, B2⟩ := hI
    show zW (f_X11_readParrots_40 N x (nI k) (nI k) g2) _
    unfold f_X11_readParrots_40
    rw [if_pos (nI_le (Nat.le_refl _) (by omega)), zW_map]
    refine w_rdR (by rw [J2.sh]; exact hL.s0) (by rw [J2.gr]; exact hL.r0_8) ?_
    rw [p_wrI (by rw [J2.sh]; exact hL.s87), Option.bind_some, zW_some]
    have J3 : zJ (fun a j => a = x + 87 ∧ j = 1) g2 (zsetI g2 (x + 87) 1 0) := zJ.setI ⟨rfl, rfl⟩
    have J : zJ (fun a j => x + 23 ≤ a ∧ a < x + 55 ∨ a = x + 87 ∧ j = 1) g (zsetI g2 (x + 87) 1 0) := (J2.mono (fun a j z => Or.inl z)).trans (J3.mono (fun a j z => Or.inr z))
    refine ⟨rfl, J, hC.come hA J (fun p hp => by unfold pme; rw [if_pos hp]) ⟨S2.keep (by omega) J3 (fun a j z => by have := z.1; have := z.2; omega), fun p h1 h2 => (B2 p h1 h2).keepJ J3 (fun a j z y => by have := z.1; have := z.2.1; omega)⟩ (by rw [gi_sI, if_pos ⟨rfl, rfl⟩]; rfl)⟩
end PA
