/-! ===== tellings; clash ===== -/
/-- the words behind w, as bits, by the tellings that are not dropped -/
def eM (P : List (Nat × Nat)) (dr : Nat) (w : Nat) : Nat → Nat
  | 0 => 0
  | k + 1 => if ¬ dr / 2 ^ k % 2 = 1 ∧ (P.getD k e0).1 = w then eM P dr w k ||| 2 ^ (P.getD k e0).2 else eM P dr w k
theorem eM_lt {P : List (Nat × Nat)} {dr w : Nat} : ∀ k, (∀ i, i < k → (P.getD i e0).2 < 8) → eM P dr w k < 256
  | 0, _ => by show 0 < 256; omega
  | k + 1, h => by
    have ih := eM_lt (dr := dr) (w := w) k (fun i hi => h i (by omega))
    show (if ¬ dr / 2 ^ k % 2 = 1 ∧ (P.getD k e0).1 = w then eM P dr w k ||| 2 ^ (P.getD k e0).2 else eM P dr w k) < 256
    split
    · exact (or256 _ ih _ (h k (by omega))).2
    · exact ih
theorem eM_bit {P : List (Nat × Nat)} {dr w v : Nat} : ∀ k, (eM P dr w k / 2 ^ v % 2 = 1) ↔ ∃ i, i < k ∧ ¬ dr / 2 ^ i % 2 = 1 ∧ (P.getD i e0).1 = w ∧ (P.getD i e0).2 = v
  | 0 => ⟨fun h => by
      have : eM P dr w 0 / 2 ^ v % 2 = 0 := by show 0 / 2 ^ v % 2 = 0; rw [Nat.zero_div]
      omega, fun ⟨i, hi, _⟩ => absurd hi (Nat.not_lt_zero i)⟩
  | k + 1 => by
    show ((if ¬ dr / 2 ^ k % 2 = 1 ∧ (P.getD k e0).1 = w then eM P dr w k ||| 2 ^ (P.getD k e0).2 else eM P dr w k) / 2 ^ v % 2 = 1) ↔ _
    by_cases e : ¬ dr / 2 ^ k % 2 = 1 ∧ (P.getD k e0).1 = w
    · rw [if_pos e, or_bit, eM_bit k]
      constructor
      · rintro (⟨i, h1, h2⟩ | h)
        · exact ⟨i, by omega, h2⟩
        · exact ⟨k, by omega, e.1, e.2, h.symm⟩
      · rintro ⟨i, h1, h2, h3, h4⟩
        by_cases ei : i = k
        · subst ei; exact Or.inr h4.symm
        · exact Or.inl ⟨i, by omega, h2, h3, h4⟩
    · rw [if_neg e, eM_bit k]
      constructor
      · rintro ⟨i, h1, h2⟩; exact ⟨i, by omega, h2⟩
      · rintro ⟨i, h1, h2, h3, h4⟩
        by_cases ei : i = k
        · subst ei; exact absurd ⟨h2, h3⟩ e
        · exact ⟨i, by omega, h2, h3, h4⟩
section TE
variable {N x m c : Nat} {g g' : ZS} {A : ZA}
theorem c_nexts (hN : 10000 ≤ N) (hC : CJ x g A) (hA : AI A c) : zW (f_X7_gatherNexts N (x + 506) g) (fun g' => zJ (fun a _ => a = x + 509) g g' ∧ ∀ w, w < 8 → zgi g' (x + 509) w = nI (eM (aP A) 0 w (aP A).length)) := by
  obtain ⟨p12, hP⟩ := hA.2.2.2.2.2.2.2.2.1
  have hL := hC.1
  have hCL := hC.2.2.2.2.2.2.2.2.1
  unfold f_X7_gatherNexts
  refine zW_forI (fun i g' => zJ (fun a _ => a = x + 509) g g' ∧ ∀ w, w < i → zgi g' (x + 509) w = nI 0) 8 (fun i g2 hi hI => ?_) (fun g2 hI => ?_) (by omega) (Nat.zero_le _) ⟨zJ.rfl, fun w hw => absurd hw (Nat.not_lt_zero w)⟩
  · obtain ⟨J2, e2⟩ := hI
    show zW (f_X7_gatherNexts_2 N (x + 506) (nI i) g2) _
    unfold f_X7_gatherNexts_2
    rw [c_8, if_neg (nI_ge hi (by omega))]
    refine w_rdR (by rw [J2.sh]; exact hL.s506) (by rw [J2.gr]; exact hL.r506_2) ?_
    rw [w20_8 (by rw [J2.sh]; exact hL.s509) (by omega), Option.bind_some, zW_some, zI_inl, c_1, nI_add]
    refine ⟨rfl, J2.setI' rfl, fun w hw => ?_⟩
    rw [gi_sI]
    by_cases e : w = i
    · subst e; rw [if_pos ⟨rfl, rfl⟩]; rfl
    · rw [if_neg (by omega)]; exact e2 w (by omega)
  · obtain ⟨J2, e2⟩ := hI
    show zW (f_X7_gatherNexts_2 N (x + 506) (nI 8) g2) _
    unfold f_X7_gatherNexts_2
    rw [c_8, if_pos (nI_le (Nat.le_refl _) (by omega)), zW_map]
    refine zW_forI (fun i g' => zJ (fun a _ => a = x + 509) g g' ∧ ∀ w, w < 8 → zgi g' (x + 509) w = nI (eM (aP A) 0 w i)) (aP A).length (fun i g3 hi hI => ?_) (fun g3 hI => ?_) (by omega) (Nat.zero_le _) ⟨J2, fun w hw => e2 w hw⟩
    · obtain ⟨J3, e3⟩ := hI
      obtain ⟨k1, k2⟩ := hCL.2 i hi
      obtain ⟨b1, b2, b3⟩ := hP i hi
      have s0 : zsh g3 (x + 506) = some (7, 0) := by rw [J3.sh]; exact hL.s506
      show zW (f_X7_gatherNexts_23 N (x + 506) (nI i) g3) _
      unfold f_X7_gatherNexts_23
      refine w_rdI s0 (show zgi g3 (x + 506) 5 = nI (aP A).length by rw [J3.gi (by omega)]; exact hCL.1) ?_
      rw [if_neg (nI_ge hi (by omega))]
      refine w_rdR s0 (by rw [J3.gr]; exact hL.r506_2) (w_rdR s0 (by rw [J3.gr]; exact hL.r506_0) ?_)
      rw [a20_12 (by rw [J3.sh]; exact hL.s507) (by omega), J3.gi (by omega), k1, Option.bind_some, a20_8 (by rw [J3.sh]; exact hL.s509) b1, e3 _ b1, Option.bind_some]
      refine w_rdR s0 (by rw [J3.gr]; exact hL.r506_1) ?_
      rw [a20_12 (by rw [J3.sh]; exact hL.s508) (by omega), J3.gi (by omega), k2, Option.bind_some, w20_8 (by rw [J3.sh]; exact hL.s509) b1, Option.bind_some, zW_some, zI_inl, c_1, nI_add]
      refine ⟨rfl, J3.setI' rfl, fun w hw => ?_⟩
      rw [gi_sI]
      have hnz : ¬ 0 / 2 ^ i % 2 = 1 := by rw [Nat.zero_div]; decide
      show _ = nI (if ¬ 0 / 2 ^ i % 2 = 1 ∧ ((aP A).getD i e0).1 = w then eM (aP A) 0 w i ||| 2 ^ ((aP A).getD i e0).2 else eM (aP A) 0 w i)
      by_cases e : w = ((aP A).getD i e0).1
      · rw [if_pos ⟨rfl, e⟩, if_pos ⟨hnz, e.symm⟩, show nI 1 <<< (nI ((aP A).getD i e0).2 &&& 31) = nI (2 ^ ((aP A).getD i e0).2) from shl_e _ (by omega), nI_or, e]
      · rw [if_neg (fun h => e h.2), if_neg (fun h => e h.2.symm)]; exact e3 w hw
    · obtain ⟨J3, e3⟩ := hI
      show zW (f_X7_gatherNexts_23 N (x + 506) (nI (aP A).length) g3) _
      unfold f_X7_gatherNexts_23
      refine w_rdI (by rw [J3.sh]; exact hL.s506) (show zgi g3 (x + 506) 5 = nI (aP A).length by rw [J3.gi (by omega)]; exact hCL.1) ?_
      rw [if_pos (nI_le (Nat.le_refl _) (by omega)), Option.map_some, zW_some, zI_inr]
      exact ⟨J3, e3⟩
theorem r_behind {dr : Nat} (hN : 10000 ≤ N) (hR : RJ m g A) (hA : AI A c) (hdr : dr < 2 ^ 20) : zW (f_X12_layBehind N m (nI dr) g) (fun g' => zJ (fun a _ => a = m + 25) g g' ∧ ∀ w, w < 8 → zgi g' (m + 25) w = nI (eM (aP A) dr w (aP A).length)) := by
  obtain ⟨p12, hP⟩ := hA.2.2.2.2.2.2.2.2.1
  have hL := hR.1
  have hCL := hR.2.2.2.2.2.2.2.2.2.1
  unfold f_X12_layBehind
  refine zW_forI (fun i g' => zJ (fun a _ => a = m + 25) g g' ∧ ∀ w, w < i → zgi g' (m + 25) w = nI 0) 8 (fun i g2 hi hI => ?_) (fun g2 hI => ?_) (by omega) (Nat.zero_le _) ⟨zJ.rfl, fun w hw => absurd hw (Nat.not_lt_zero w)⟩
  · obtain ⟨J2, e2⟩ := hI
    have R2 := hL.J J2
    show zW (f_X12_layBehind_2 N m (nI dr) (nI i) g2) _
    unfold f_X12_layBehind_2
    rw [c_8, if_neg (nI_ge hi (by omega))]
    refine w_rdR R2.s0 R2.r37 ?_
    rw [w20_8 R2.s25 (by omega), Option.bind_some, zW_some, zI_inl, c_1, nI_add]
    refine ⟨rfl, J2.setI' rfl, fun w hw => ?_⟩
    rw [gi_sI]
    by_cases e : w = i
    · subst e; rw [if_pos ⟨rfl, rfl⟩]; rfl
    · rw [if_neg (by omega)]; exact e2 w (by omega)
  · obtain ⟨J2, e2⟩ := hI
    show zW (f_X12_layBehind_2 N m (nI dr) (nI 8) g2) _
    unfold f_X12_layBehind_2
    rw [c_8, if_pos (nI_le (Nat.le_refl _) (by omega)), zW_map]
    refine zW_forI (fun i g' => zJ (fun a _ => a = m + 25) g g' ∧ ∀ w, w < 8 → zgi g' (m + 25) w = nI (eM (aP A) dr w i)) (aP A).length (fun i g3 hi hI => ?_) (fun g3 hI => ?_) (by omega) (Nat.zero_le _) ⟨J2, fun w hw => e2 w hw⟩
    · obtain ⟨J3, e3⟩ := hI
      have R3 := hL.J J3
      obtain ⟨k1, k2⟩ := hCL.2 i hi
      obtain ⟨b1, b2, b3⟩ := hP i hi
      show zW (f_X12_layBehind_23 N m (nI dr) (nI i) g3) _
      unfold f_X12_layBehind_23 f_X12_layBehind_61
      refine w_rdI R3.s0 (show zgi g3 m 36 = nI (aP A).length by rw [J3.gi (by omega)]; exact hCL.1) ?_
      rw [if_neg (nI_ge hi (by omega)), e_has (by omega) (by omega), Option.bind_some]
      have hs : ∀ w, eM (aP A) dr w (i + 1) = if ¬ dr / 2 ^ i % 2 = 1 ∧ ((aP A).getD i e0).1 = w then eM (aP A) dr w i ||| 2 ^ ((aP A).getD i e0).2 else eM (aP A) dr w i := fun w => rfl
      by_cases eb : dr / 2 ^ i % 2 = 1
      · rw [if_neg (bI_ne (decide_eq_true eb)), zW_some, zI_inl, c_1, nI_add]
        refine ⟨rfl, J3, fun w hw => ?_⟩
        rw [hs, if_neg (fun h => h.1 eb)]; exact e3 w hw
      · rw [if_pos (bI_eq (decide_eq_false eb))]
        refine w_rdR R3.s0 R3.r37 (w_rdR R3.s0 R3.r34 ?_)
        rw [a20_12 R3.s23 (by omega), J3.gi (by omega), k1, Option.bind_some, a20_8 R3.s25 b1, e3 _ b1, Option.bind_some]
        refine w_rdR R3.s0 R3.r35 ?_
        rw [a20_12 R3.s24 (by omega), J3.gi (by omega), k2, Option.bind_some, w20_8 R3.s25 b1, Option.bind_some, zW_some, zI_inl, c_1, nI_add]
        refine ⟨rfl, J3.setI' rfl, fun w hw => ?_⟩
        rw [gi_sI, hs]
        by_cases e : w = ((aP A).getD i e0).1
        · rw [if_pos ⟨rfl, e⟩, if_pos ⟨eb, e.symm⟩, show nI 1 <<< (nI ((aP A).getD i e0).2 &&& 31) = nI (2 ^ ((aP A).getD i e0).2) from shl_e _ (by omega), nI_or, e]
        · rw [if_neg (fun h => e h.2), if_neg (fun h => e h.2.symm)]; exact e3 w hw
    · obtain ⟨J3, e3⟩ := hI
      have R3 := hL.J J3
      show zW (f_X12_layBehind_23 N m (nI dr) (nI (aP A).length) g3) _
      unfold f_X12_layBehind_23
      refine w_rdI R3.s0 (show zgi g3 m 36 = nI (aP A).length by rw [J3.gi (by omega)]; exact hCL.1) ?_
      rw [if_pos (nI_le (Nat.le_refl _) (by omega)), Option.map_some, zW_some, zI_inr]
      exact ⟨J3, e3⟩
end TE
/-! ways back to the least word -/
def Pl (M : Nat → Nat) (q : Nat) : Nat → List Nat → Prop
  | v, [] => M v / 2 ^ q % 2 = 1
  | v, u :: r => M v / 2 ^ u % 2 = 1 ∧ q < u ∧ u < 8 ∧ Pl M q u r
def bk (M : Nat → Nat) (q : Nat) : Nat → Nat
  | 0 => 2 ^ q
  | t + 1 => mk (fun w => decide (q < w ∧ ¬ M w &&& bk M q t = 0)) 8
section PL
variable {M : Nat → Nat} {q v t : Nat} {s : List Nat}
theorem mk_lt8 {C : Nat → Bool} : ∀ n, n ≤ 8 → mk C n < 256
  | 0, _ => by show 0 < 256; omega
  | n + 1, h => by
    rw [mk_s]
    split
    · exact (or256 _ (mk_lt8 n (by omega)) n (by omega)).2
    · exact mk_lt8 n (by omega)
theorem bk_lt (hq : q < 8) : ∀ t, bk M q t < 256
  | 0 => Nat.lt_of_lt_of_le (Nat.pow_lt_pow_right (by omega) hq) (show 2 ^ 8 ≤ 256 by decide)
  | t + 1 => mk_lt8 8 (Nat.le_refl _)
theorem and_ne {a b : Nat} (ha : a < 256) : (¬ a &&& b = 0) ↔ ∃ u, u < 8 ∧ a / 2 ^ u % 2 = 1 ∧ b / 2 ^ u % 2 = 1 := by
  constructor
  · intro h
    have hlt : a &&& b < 2 ^ 8 := Nat.lt_of_le_of_lt Nat.and_le_left ha
    obtain ⟨j, hj, hb⟩ := bit_ex 8 hlt (by omega)
    exact ⟨j, hj, (and_bit.mp hb).1, (and_bit.mp hb).2⟩
  · rintro ⟨u, hu, h1, h2⟩ h
    have := and_bit.mpr ⟨h1, h2⟩
    rw [h, Nat.zero_div] at this
    omega
theorem pw_bit {q v : Nat} : (2 ^ q / 2 ^ v % 2 = 1) ↔ v = q := by
  have h := or_bit (a := 0) (p := q) (w := v)
  rw [Nat.zero_or, Nat.zero_div] at h
  rw [h]
  constructor
  · rintro (h | h)
    · omega
    · exact h
  · exact Or.inr
theorem bk_bit (hM : ∀ w, w < 8 → M w < 256) (hq : q < 8) : ∀ t v, v < 8 → ((bk M q (t + 1) / 2 ^ v % 2 = 1) ↔ q < v ∧ ∃ s, Pl M q v s ∧ s.length = t)
  | 0, v, hv => by
    show (mk _ 8 / 2 ^ v % 2 = 1) ↔ _
    rw [mk_bit, decide_eq_true_iff, and_ne (hM v hv)]
    constructor
    · rintro ⟨-, h1, u, h2, h3, h4⟩
      have hu : u = q := pw_bit.mp h4
      subst hu
      exact ⟨h1, [], h3, rfl⟩
    · rintro ⟨h1, s, h2, h3⟩
      cases s with
      | nil => exact ⟨hv, h1, q, hq, h2, pw_bit.mpr rfl⟩
      | cons a b => cases h3
  | t + 1, v, hv => by
    show (mk _ 8 / 2 ^ v % 2 = 1) ↔ _
    rw [mk_bit, decide_eq_true_iff, and_ne (hM v hv)]
    constructor
    · rintro ⟨-, h1, u, h2, h3, h4⟩
      obtain ⟨h5, s, h6, h7⟩ := (bk_bit hM hq t u h2).mp h4
      exact ⟨h1, u :: s, ⟨h3, h5, h2, h6⟩, by show s.length + 1 = t + 1; omega⟩
    · rintro ⟨h1, s, h2, h3⟩
      cases s with
      | nil => cases h3
      | cons u r => exact ⟨hv, h1, u, h2.2.2.1, h2.1, (bk_bit hM hq t u h2.2.2.1).mpr ⟨h2.2.1, r, h2.2.2.2, Nat.succ.inj h3⟩⟩
/-- a ring of n words from q on -/
def rg (M : Nat → Nat) (n q : Nat) : Bool := decide (¬ M q &&& bk M q (n - 1) = 0)
theorem rg_iff {n : Nat} (hM : ∀ w, w < 8 → M w < 256) (hq : q < 8) (hn : 2 ≤ n) : rg M n q = true ↔ ∃ s, Pl M q q s ∧ s.length + 1 = n := by
  obtain ⟨t, rfl⟩ : ∃ t, n = t + 2 := ⟨n - 2, by omega⟩
  unfold rg
  rw [decide_eq_true_iff, and_ne (hM q hq)]
  constructor
  · rintro ⟨u, h2, h3, h4⟩
    obtain ⟨h5, s, h6, h7⟩ := (bk_bit hM hq t u h2).mp h4
    exact ⟨u :: s, ⟨h3, h5, h2, h6⟩, by show s.length + 1 + 1 = t + 2; omega⟩
  · rintro ⟨s, h2, h3⟩
    cases s with
    | nil => have h3' : 0 + 1 = t + 2 := h3; omega
    | cons u r =>
      have h3' : r.length + 1 + 1 = t + 2 := h3
      exact ⟨u, h2.2.2.1, h2.1, (bk_bit hM hq t u h2.2.2.1).mpr ⟨h2.2.1, r, h2.2.2.2, by omega⟩⟩
theorem Pl.suffix {u : Nat} {c : List Nat} : ∀ (b : List Nat) (v : Nat), Pl M q v (b ++ u :: c) → Pl M q u c
  | [], v, h => h.2.2.2
  | a :: b, v, h => Pl.suffix b a h.2.2.2
/-- a way that meets a word twice can be cut short -/
theorem Pl.short : ∀ (s : List Nat) (v : Nat), Pl M q v s → ¬ s.Nodup → ∃ s', Pl M q v s' ∧ s'.length < s.length ∧ 1 ≤ s'.length
  | [], v, _, h => absurd List.nodup_nil h
  | u :: r, v, hp, h => by
    by_cases hu : u ∈ r
    · obtain ⟨b, c, e⟩ := List.append_of_mem hu
      refine ⟨u :: c, ⟨hp.1, hp.2.1, hp.2.2.1, ?_⟩, ?_, by show 1 ≤ c.length + 1; omega⟩
      · have := hp.2.2.2
        rw [e] at this
        exact Pl.suffix b u this
      · rw [e]
        show c.length + 1 < (b ++ u :: c).length + 1
        rw [List.length_append]
        show c.length + 1 < b.length + (c.length + 1) + 1
        omega
    · have hr : ¬ r.Nodup := fun h' => h (List.nodup_cons.mpr ⟨hu, h'⟩)
      obtain ⟨s', h1, h2, h3⟩ := Pl.short r u hp.2.2.2 hr
      exact ⟨u :: s', ⟨hp.1, hp.2.1, hp.2.2.1, h1⟩, by show s'.length + 1 < r.length + 1; omega, by show 1 ≤ s'.length + 1; omega⟩
theorem Pl.gt : ∀ (s : List Nat) (v : Nat), Pl M q v s → ∀ u, u ∈ s → q < u ∧ u < 8
  | [], _, _, u, h => absurd h List.not_mem_nil
  | a :: r, v, hp, u, h => by
    rcases List.mem_cons.mp h with e | h
    · subst e; exact ⟨hp.2.1, hp.2.2.1⟩
    · exact Pl.gt r a hp.2.2.2 u h
def BP (M : Nat → Nat) (q v t : Nat) (G : List Nat) : Prop := Pl M q v G ∧ G.length = t ∧ ∀ s, Pl M q v s → s.length = t → lxLe G s
theorem low_q {K e : Nat} (hK : K < 2 ^ e) (he : e ≤ 20) (h0 : 0 < K) : ∃ i, i < e ∧ lowI K = nI i ∧ K / 2 ^ i % 2 = 1 ∧ ∀ j, j < i → ¬ K / 2 ^ j % 2 = 1 := by
  obtain ⟨j, hj, hb⟩ := bit_ex e hK h0
  obtain ⟨z1, z2, z3, z4⟩ := zleast_spec (lwP K) 32 0
  have hle : zleast (lwP K) 32 0 ≤ j := Nat.le_of_not_lt (fun h => by
    have := z3 j (Nat.zero_le _) h
    unfold lwP at this
    rw [decide_eq_true hb] at this; cases this)
  refine ⟨zleast (lwP K) 32 0, by omega, ?_, of_decide_eq_true (z4 (by omega)), fun j hj => of_decide_eq_false (z3 j (Nat.zero_le _) hj)⟩
  unfold lowI
  rw [if_pos (by omega)]
end PL
section CL1
variable {N x m c : Nat} {g g' : ZS} {A : ZA} {M : Nat → Nat}
theorem c_ring {q n : Nat} (hN : 10000 ≤ N) (hC : CJ x g A) (hM : ∀ w, w < 8 → M w < 256) (hg : ∀ w, w < 8 → zgi g (x + 509) w = nI (M w)) (hq : q < 8) (hn : 2 ≤ n) (hn8 : n ≤ 8) : zW (f_X7_hasRing N (x + 506) (nI q) (nI n) g) (fun o => o.1 = bI (rg M n q) ∧ zJ (fun a _ => a = x + 510) g o.2 ∧ ∀ t, t < n → zgi o.2 (x + 510) t = nI (bk M q t)) := by
  have hL := hC.1
  have hbk := fun t => bk_lt (M := M) hq t
  unfold f_X7_hasRing
  refine w_rdR hL.s506 hL.r506_3 ?_
  rw [c_0, w20_9 hL.s510 (by omega), Option.bind_some, shl_e q (by omega), c_1]
  refine zW_forI (fun i g' => 1 ≤ i ∧ zJ (fun a _ => a = x + 510) g g' ∧ ∀ t, t < i → zgi g' (x + 510) t = nI (bk M q t)) n (fun i g2 hi hI => ?_) (fun g2 hI => ?_) (by omega) (show 1 ≤ n by omega) ⟨Nat.le_refl _, zJ.setI rfl, fun t ht => by rw [show t = 0 by omega, gi_sI, if_pos ⟨rfl, rfl⟩]; rfl⟩
  · obtain ⟨h1, J2, e2⟩ := hI
    obtain ⟨t, rfl⟩ : ∃ t, i = t + 1 := ⟨i - 1, by omega⟩
    show zW (f_X7_hasRing_11 N (x + 506) (nI q) (nI n) (nI (t + 1)) g2) _
    unfold f_X7_hasRing_11
    rw [if_neg (nI_ge hi (by omega))]
    refine w_rdR (by rw [J2.sh]; exact hL.s506) (by rw [J2.gr]; exact hL.r506_3) ?_
    rw [c_0, w20_9 (by rw [J2.sh]; exact hL.s510) (by omega), Option.bind_some, c_1, nI_add]
    have hz : mk (fun w => decide (q < w ∧ ¬ M w &&& bk M q t = 0)) (q + 1) = 0 := by
      have : ∀ k, k ≤ q + 1 → mk (fun w => decide (q < w ∧ ¬ M w &&& bk M q t = 0)) k = 0 := fun k => by
        induction k with
        | zero => exact fun _ => rfl
        | succ k ih =>
          intro hk
          rw [mk_s, if_neg (by rw [decide_eq_false (fun h => by omega)]; decide), ih (by omega)]
      exact this _ (Nat.le_refl _)
    refine zW_forI (fun w g' => q < w ∧ zJ (fun a j => a = x + 510 ∧ j = t + 1) g2 g' ∧ zgi g' (x + 510) (t + 1) = nI (mk (fun w => decide (q < w ∧ ¬ M w &&& bk M q t = 0)) w)) 8 (fun w g3 hw hI => ?_) (fun g3 hI => ?_) (by omega) (show q + 1 ≤ 8 by omega) ⟨by omega, zJ.setI ⟨rfl, rfl⟩, by rw [hz, gi_sI, if_pos ⟨rfl, rfl⟩]⟩
    · obtain ⟨h3, J3, e3⟩ := hI
      have s0 : zsh g3 (x + 506) = some (7, 0) := by rw [J3.sh, J2.sh]; exact hL.s506
      have s5 : zsh g3 (x + 510) = some (20, 9) := by rw [J3.sh, J2.sh]; exact hL.s510
      have r3 : zgr g3 (x + 506) 3 = some (x + 510) := by rw [J3.gr, J2.gr]; exact hL.r506_3
      have ht : zgi g3 (x + 510) t = nI (bk M q t) := by rw [J3.gi (by omega)]; exact e2 t (by omega)
      have hw9 : zgi g3 (x + 509) w = nI (M w) := by rw [J3.gi (by omega), J2.gi (by omega)]; exact hg w hw
      show zW (f_X7_hasRing_28 N (x + 506) (nI q) (nI n) (nI (t + 1)) (nI w) g3) _
      unfold f_X7_hasRing_28 f_X7_hasRing_69
      rw [c_8, if_neg (nI_ge hw (by omega))]
      refine w_rdR s0 r3 ?_
      rw [a20_9 s5 (by omega), e3, Option.bind_some]
      refine w_rdR s0 (by rw [J3.gr, J2.gr]; exact hL.r506_2) ?_
      rw [a20_8 (by rw [J3.sh, J2.sh]; exact hL.s509) hw, hw9, Option.bind_some]
      refine w_rdR s0 r3 ?_
      rw [c_1, nI_sub (by omega), Nat.add_sub_cancel, a20_9 s5 (by omega), ht, Option.bind_some, nI_and, mk_s]
      have hlt := mk_lt8 (C := fun w => decide (q < w ∧ ¬ M w &&& bk M q t = 0)) w (by omega)
      have hand : M w &&& bk M q t < 256 := Nat.lt_of_le_of_lt Nat.and_le_left (hM w hw)
      by_cases e : M w &&& bk M q t = 0
      · rw [if_pos (by rw [e]; rfl), or_z0, w20_9 s5 (by omega), Option.bind_some, zW_some, zI_inl, nI_add, if_neg (by rw [decide_eq_false (fun h => h.2 e)]; decide)]
        exact ⟨rfl, by omega, J3.setI' ⟨rfl, rfl⟩, by rw [gi_sI, if_pos ⟨rfl, rfl⟩]⟩
      · rw [if_neg (nI_ne0 (by omega) (by omega)), show nI 1 <<< (nI w &&& 31) = bitW w from rfl, (or256 _ hlt w hw).1, w20_9 s5 (by omega), Option.bind_some, zW_some, zI_inl, nI_add, if_pos (decide_eq_true ⟨h3, e⟩)]
        exact ⟨rfl, by omega, J3.setI' ⟨rfl, rfl⟩, by rw [gi_sI, if_pos ⟨rfl, rfl⟩]⟩
    · obtain ⟨h3, J3, e3⟩ := hI
      show zW (f_X7_hasRing_28 N (x + 506) (nI q) (nI n) (nI (t + 1)) (nI 8) g3) _
      unfold f_X7_hasRing_28
      rw [c_8, if_pos (nI_le (Nat.le_refl _) (by omega)), Option.map_some, zW_some, zI_inr, zI_inl, c_1, nI_add]
      refine ⟨rfl, by omega, J2.trans (J3.mono (fun a j z => z.1)), fun u hu => ?_⟩
      by_cases e : u = t + 1
      · subst e; exact e3
      · rw [J3.gi (by omega)]; exact e2 u (by omega)
  · obtain ⟨h1, J2, e2⟩ := hI
    have s0 : zsh g2 (x + 506) = some (7, 0) := by rw [J2.sh]; exact hL.s506
    show zW (f_X7_hasRing_11 N (x + 506) (nI q) (nI n) (nI n) g2) _
    unfold f_X7_hasRing_11 f_X7_hasRing_106
    rw [if_pos (nI_le (Nat.le_refl _) (by omega)), zW_map]
    refine w_rdR s0 (by rw [J2.gr]; exact hL.r506_2) ?_
    rw [a20_8 (by rw [J2.sh]; exact hL.s509) hq, J2.gi (by omega), hg q hq, Option.bind_some]
    refine w_rdR s0 (by rw [J2.gr]; exact hL.r506_3) ?_
    rw [c_1, nI_sub (by omega), a20_9 (by rw [J2.sh]; exact hL.s510) (by omega), e2 (n - 1) (by omega), Option.bind_some, nI_and]
    have hand : M q &&& bk M q (n - 1) < 256 := Nat.lt_of_le_of_lt Nat.and_le_left (hM q hq)
    unfold rg
    by_cases e : M q &&& bk M q (n - 1) = 0
    · rw [if_pos (by rw [e]; rfl), if_pos (show vp_nar .boolean (0 : Int32) = 0 from rfl), zW_some, zI_inr, decide_eq_false (fun h => h e)]
      exact ⟨rfl, J2, e2⟩
    · rw [if_neg (nI_ne0 (by omega) (by omega)), if_pos (show vp_nar .boolean (nI 1) = nI 1 from rfl), zW_some, zI_inr, decide_eq_true e]
      exact ⟨rfl, J2, e2⟩
theorem c_tellSteps {q : Nat} (hN : 10000 ≤ N) (hA : AI A c) (hM : ∀ w, w < 8 → M w < 256) (hq : q < 8) : ∀ (t K v : Nat) (g : ZS) (r : List Int64), t < K → v < 8 → CJ x g A → (∀ w, w < 8 → zgi g (x + 509) w = nI (M w)) → (∀ u, u ≤ t → zgi g (x + 510) u = nI (bk M q u)) → t ≤ 7 → (∃ s, Pl M q v s ∧ s.length = t) → r.length + t ≤ 8 → XR g (x + 3) (x + 4) r → zW (zloop (fun s => f_X7_tellRing_14 N (x + 506) (x + 3) s.1 s.2.1 s.2.2) K (nI v, nI t, g)) (fun g' => ∃ G, BP M q v t G ∧ zJ (SR (x + 3) (x + 4)) g g' ∧ XR g' (x + 3) (x + 4) (r ++ G.map wL))
  | 0, K, v, g, r, hK, hv, hC, hg, hb, ht, hs, hr, hX => by
    obtain ⟨K', rfl⟩ : ∃ q, K = q + 1 := ⟨K - 1, by omega⟩
    have hbd : f_X7_tellRing_14 N (x + 506) (x + 3) (nI v) (nI 0) g = some (.inr g) := by
      unfold f_X7_tellRing_14
      rw [if_pos (show nI 0 < 1 by decide)]; rfl
    obtain ⟨s, h1, h2⟩ := hs
    have hs0 : s = [] := List.length_eq_zero_iff.mp h2
    subst hs0
    exact zW.eq (zl_inr (body := fun s => f_X7_tellRing_14 N (x + 506) (x + 3) s.1 s.2.1 s.2.2) hbd) ⟨[], ⟨h1, rfl, fun s _ _ => trivial⟩, zJ.rfl, by rw [List.map_nil, List.append_nil]; exact hX⟩
  | t + 1, K, v, g, r, hK, hv, hC, hg, hb, ht, hs, hr, hX => by
    obtain ⟨K', rfl⟩ : ∃ q, K = q + 1 := ⟨K - 1, by omega⟩
    have hL := hC.1
    have hand : M v &&& bk M q (t + 1) < 2 ^ 8 := Nat.lt_of_le_of_lt Nat.and_le_left (hM v hv)
    have hbit := fun u (hu : u < 8) => bk_bit (M := M) hM hq t u hu
    have hpos : 0 < M v &&& bk M q (t + 1) := by
      obtain ⟨s, h1, h2⟩ := hs
      cases s with
      | nil => cases h2
      | cons u p =>
        have := (and_ne (b := bk M q (t + 1)) (hM v hv)).mpr ⟨u, h1.2.2.1, h1.1, (hbit u h1.2.2.1).mpr ⟨h1.2.1, p, h1.2.2.2, Nat.succ.inj h2⟩⟩
        omega
    obtain ⟨u, hu8, hlow, hub, hmin⟩ := low_q hand (by omega) hpos
    obtain ⟨hu1, hu2⟩ := and_bit.mp hub
    obtain ⟨hqu, s0, hs1, hs2⟩ := (hbit u hu8).mp hu2
    refine zW_bind.mpr ?_
    show zW (f_X7_tellRing_14 N (x + 506) (x + 3) (nI v) (nI (t + 1)) g) _
    unfold f_X7_tellRing_14
    rw [c_1, if_neg (nI_nlt (by omega) (by omega))]
    refine w_rdR hL.s506 hL.r506_2 ?_
    rw [a20_8 hL.s509 hv, hg v hv, Option.bind_some]
    refine w_rdR hL.s506 hL.r506_3 ?_
    rw [a20_9 hL.s510 (by omega), hb (t + 1) (Nat.le_refl _), Option.bind_some, nI_and, e_lowest hN (by omega), Option.bind_some, hlow, mx, Option.bind_some]
    have hmax : (if (0 : Int32) < nI u then nI u else (0 : Int32)) = nI u := by
      rw [c_0]
      by_cases e : 0 < u
      · rw [if_pos (nI_lt e (by omega))]
      · rw [if_neg (nI_nlt (by omega) (by omega)), show u = 0 by omega]
    rw [hmax]
    refine w_vs hL.s3 ((s_add ⟨hL.s3, hL.s4, hL.r3_0⟩ hX (by omega)).bind (fun g2 h2 => ?_))
    obtain ⟨J2, X2⟩ := h2
    rw [zW_some, show nI (t + 1) + (-nI 1 : Int32) = nI t from by rw [ng_dec (by omega), Nat.add_sub_cancel]]
    refine (c_tellSteps hN hA hM hq t K' u g2 (r ++ [wL u]) (by omega) hu8 (hC.keep hA J2 (fun a j z => by omega)) (fun w hw => by rw [J2.gi (by omega)]; exact hg w hw) (fun y hy => by rw [J2.gi (by omega)]; exact hb y (by omega)) (by omega) ⟨s0, hs1, hs2⟩ (by rw [List.length_append, List.length_singleton]; omega) X2).mono (fun g3 h3 => ?_)
    obtain ⟨G, hG, J3, X3⟩ := h3
    refine ⟨u :: G, ⟨⟨hu1, hqu, hu8, hG.1⟩, by show G.length + 1 = t + 1; rw [hG.2.1], fun s hs hlen => ?_⟩, J2.trans J3, ?_⟩
    · cases s with
      | nil => cases hlen
      | cons a p =>
        have hp : p.length = t := Nat.succ.inj hlen
        unfold lxLe
        by_cases c1 : u < a
        · exact Or.inl c1
        · by_cases c2 : a < u
          · exact absurd (and_bit.mpr ⟨hs.1, (hbit a hs.2.2.1).mpr ⟨hs.2.1, p, hs.2.2.2, hp⟩⟩) (hmin a c2)
          · have e : u = a := by omega
            subst e
            exact Or.inr ⟨rfl, hG.2.2 p hs.2.2.2 hp⟩
    · rw [List.map_cons]
      rw [List.append_assoc] at X3
      exact X3
end CL1
