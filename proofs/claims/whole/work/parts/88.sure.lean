/-! ===== sure ===== -/
def nL (a : Nat) : Int64 := Int64.ofNat a
theorem nL_mul {a b : Nat} : nL a * nL b = nL (a * b) := (Int64.ofNat_mul a b).symm
theorem nL_add {a b : Nat} : nL a + nL b = nL (a + b) := (Int64.ofNat_add a b).symm
theorem nL_sub {a b : Nat} (h : b ≤ a) : nL a - nL b = nL (a - b) := by
  obtain ⟨c, rfl⟩ : ∃ c, a = b + c := ⟨a - b, by omega⟩
  rw [Nat.add_sub_cancel_left, ← nL_add, Int64.add_comm, Int64.add_sub_cancel]
theorem nL_div {a b : Nat} (ha : a < 2 ^ 63) (hb : b < 2 ^ 63) : nL a / nL b = nL (a / b) := (Int64.ofNat_div ha hb).symm
theorem nL_rem {a b : Nat} (ha : a < 2 ^ 63) (hb : b < 2 ^ 63) : nL a - nL a / nL b * nL b = nL (a % b) := by
  rw [nL_div ha hb, nL_mul, nL_sub (Nat.div_mul_le_self a b)]
  congr 1
  have := Nat.div_add_mod a b
  rw [Nat.mul_comm] at this
  omega
theorem nL_toInt {a : Nat} (h : a < 2 ^ 63) : (nL a).toInt = a := Int64.toInt_ofNat_of_lt h
theorem nL_0 {a : Nat} (h : a < 2 ^ 63) : nL a = 0 ↔ a = 0 := ⟨fun x => by
  have := congrArg Int64.toInt x
  rw [nL_toInt h] at this
  have h0 : (0 : Int64).toInt = 0 := rfl
  omega, fun x => by rw [x]; rfl⟩
theorem nL_le0 {a : Nat} (h : a < 2 ^ 63) : nL a ≤ 0 ↔ a = 0 := by
  rw [Int64.le_iff_toInt_le, nL_toInt h]
  have h0 : (0 : Int64).toInt = 0 := rfl
  omega
theorem nIL : ∀ k, k < 12 → (nI k).toInt64 = nL k := by decide +kernel
theorem nIL10 : ∀ k, k < 11 → (nI 10 - nI k).toInt64 = nL (10 - k) := by decide +kernel
theorem zW_val {α : Type} {t : Option α} {v : α} (h : zW t (fun r => r = v)) : t = some v := by
  obtain ⟨r, h1, h2⟩ := h
  rw [h1, h2]
def pwL (v : Nat) (e : Nat) : Int64 := zfold (fun _ acc => acc * nL v) e 1
theorem pwL_e {v : Nat} : ∀ e, pwL v e = nL (v ^ e)
  | 0 => rfl
  | e + 1 => by
    show pwL v e * nL v = _
    rw [pwL_e e, nL_mul, Nat.pow_succ]
section SU1
variable {N : Nat}
theorem e_pow11 {x : Int32} {v e : Nat} (hN : 10000 ≤ N) (he : e < 1000) (hx : x.toInt64 = nL v) : f_X11_power N x (nI e) = some (nL (v ^ e)) := by
  rw [← pwL_e]
  unfold f_X11_power pwL
  refine loopA (body := fun s => f_X11_power_5 N x (nI e) s.1 s.2) (fun _ acc => acc * nL v) e id (fun _ _ => True) trivial (fun i y hi _ => ⟨?_, trivial⟩) (fun y _ => ?_) (by omega)
  · show f_X11_power_5 N x (nI e) y (nI i) = _
    unfold f_X11_power_5
    rw [if_neg (nI_ge hi (by omega)), c_1, nI_add, hx]
  · show f_X11_power_5 N x (nI e) y (nI e) = _
    unfold f_X11_power_5
    rw [if_pos (nI_le (Nat.le_refl _) (by omega))]; rfl
theorem e_pow12 {v e : Nat} (hN : 10000 ≤ N) (he : e < 1000) : f_X12_power N (nL v) (nI e) = some (nL (v ^ e)) := by
  rw [← pwL_e]
  unfold f_X12_power pwL
  refine loopA (body := fun s => f_X12_power_5 N (nL v) (nI e) s.1 s.2) (fun _ acc => acc * nL v) e id (fun _ _ => True) trivial (fun i y hi _ => ⟨?_, trivial⟩) (fun y _ => ?_) (by omega)
  · show f_X12_power_5 N (nL v) (nI e) y (nI i) = _
    unfold f_X12_power_5
    rw [if_neg (nI_ge hi (by omega)), c_1, nI_add]
  · show f_X12_power_5 N (nL v) (nI e) y (nI e) = _
    unfold f_X12_power_5
    rw [if_pos (nI_le (Nat.le_refl _) (by omega))]; rfl
/-- how many ways to choose, step by step -/
def bin (n : Nat) : Nat → Nat
  | 0 => 1
  | i + 1 => bin n i * (n - i) / (i + 1)
theorem bin_le : ∀ n, n < 9 → ∀ i, i < 10 → bin n i ≤ 70 := by decide +kernel
def sgN (n p k : Nat) : Nat → Nat
  | 0 => 0
  | i + 1 => if i < k then sgN n p k i else sgN n p k i + bin n i * p ^ i * (10 - p) ^ (n - i)
theorem sgN_lt : ∀ n, n < 9 → ∀ p, p < 11 → ∀ k, k < 9 → sgN n p k (n + 1) < 2 ^ 36 := by decide +kernel
theorem bin_s {n i : Nat} (hn : n < 9) (hi : i ≤ n) : nL (bin n i) * (nI (n - i)).toInt64 / (nI (i + 1)).toInt64 = nL (bin n (i + 1)) := by
  have h1 := bin_le n hn i (by omega)
  have h2 : bin n i * (n - i) ≤ 70 * 8 := Nat.mul_le_mul h1 (by omega)
  rw [nIL _ (by omega), nIL _ (by omega), nL_mul, nL_div (by omega) (by omega)]; rfl
theorem e_ways {n p k : Nat} (hN : 10000 ≤ N) (hn : n < 9) (hp : p < 11) (hk : k < 9) : f_X11_waysOfRight N (nI n) (nI p) (nI k) = some (nL (sgN n p k (n + 1))) := by
  refine zW_val ?_
  unfold f_X11_waysOfRight
  refine zW_for (fun i (s : Int64 × Int64 × Int32) => s.1 = nL (sgN n p k i) ∧ s.2.1 = nL (bin n i) ∧ s.2.2 = nI i) (n + 1) (fun i s hi hs => ?_) (fun s hs => ?_) (by omega) (Nat.zero_le _) ⟨rfl, rfl, rfl⟩
  · obtain ⟨y1, y2, y3⟩ := s
    obtain ⟨h1, h2, h3⟩ := hs
    dsimp only at h1 h2 h3
    subst h1 h2 h3
    have hz : ¬ (nI (i + 1)).toInt64 = 0 := by
      rw [nIL _ (by omega), nL_0 (by omega)]; omega
    have hs : sgN n p k (i + 1) = if i < k then sgN n p k i else sgN n p k i + bin n i * p ^ i * (10 - p) ^ (n - i) := rfl
    show zW (f_X11_waysOfRight_8 N (nI n) (nI p) (nI k) (nL (sgN n p k i)) (nL (bin n i)) (nI i)) _
    unfold f_X11_waysOfRight_8 f_X11_waysOfRight_44
    rw [if_neg (nI_nlt (by omega) (by omega)), c_1, nI_add, if_neg hz, nI_sub (show i ≤ n by omega), bin_s hn (by omega), c_10]
    by_cases e : i < k
    · rw [if_pos (nI_lt e (by omega)), zW_some, zI_inl, hs, if_pos e]
      exact ⟨rfl, rfl, rfl⟩
    · rw [if_neg (nI_nlt (by omega) (by omega)), e_pow11 hN (by omega) (nIL p (by omega)), Option.bind_some, e_pow11 hN (by omega) (nIL10 p hp), Option.bind_some, if_neg hz, zW_some, zI_inl, hs, if_neg e, nL_mul, nL_mul, nL_add]
      exact ⟨rfl, rfl, rfl⟩
  · obtain ⟨y1, y2, y3⟩ := s
    obtain ⟨h1, h2, h3⟩ := hs
    dsimp only at h1 h2 h3
    subst h1 h2 h3
    show zW (f_X11_waysOfRight_8 N (nI n) (nI p) (nI k) _ _ (nI (n + 1))) _
    unfold f_X11_waysOfRight_8
    rw [if_pos (nI_lt (by omega) (by omega)), Option.map_some, zW_some, zI_inr]
/-! the greatest common measure, in few steps -/
def euN : Nat → Nat → Nat → Option Nat
  | 0, _, _ => none
  | f + 1, a, b => if b = 0 then some a else euN f b (a % b)
theorem euN_s {f a b : Nat} : euN (f + 1) a b = if b = 0 then some a else euN f b (a % b) := rfl
theorem gcd_rec' {a b : Nat} : Nat.gcd b (a % b) = Nat.gcd a b := by rw [Nat.gcd_comm a b, Nat.gcd_rec b a, Nat.gcd_comm]
theorem eu1 : ∀ t a b, b ≤ a → a < 2 ^ t → euN (2 * t + 1) a b = some (Nat.gcd a b)
  | 0, a, b, h1, h2 => by
    have ha : a = 0 := by simp at h2; exact h2
    have hb : b = 0 := by omega
    subst ha hb; rfl
  | t + 1, a, b, h1, h2 => by
    rw [show 2 * (t + 1) + 1 = (2 * t + 1) + 1 + 1 by omega, euN_s]
    by_cases e : b = 0
    · rw [if_pos e, e, Nat.gcd_zero_right]
    · rw [if_neg e, euN_s]
      by_cases e2 : a % b = 0
      · rw [if_pos e2, ← gcd_rec', e2, Nat.gcd_zero_right]
      · rw [if_neg e2, eu1 t (a % b) (b % (a % b)) (Nat.le_of_lt (Nat.mod_lt _ (by omega))) ?_, gcd_rec', gcd_rec']
        have h3 : a % b < b := Nat.mod_lt _ (by omega)
        have h4 := Nat.div_add_mod a b
        have h5 : 1 ≤ a / b := Nat.div_pos h1 (by omega)
        have h6 : b * 1 ≤ b * (a / b) := Nat.mul_le_mul_left b h5
        rw [Nat.pow_succ] at h2
        omega
theorem eu2 {t a b : Nat} (h : b < 2 ^ t) : euN (2 * t + 2) a b = some (Nat.gcd a b) := by
  rw [show 2 * t + 2 = (2 * t + 1) + 1 from rfl, euN_s]
  by_cases e : b = 0
  · rw [if_pos e, e, Nat.gcd_zero_right]
  · rw [if_neg e, eu1 t b (a % b) (Nat.le_of_lt (Nat.mod_lt _ (by omega))) h, gcd_rec']
theorem c_frac {x c S L r : Nat} {g : ZS} {A : ZA} (hC : CJ x g A) (hA : AI A c) (hr : 0 < r) (hr2 : r < 2 ^ 63) (hS : S < 2 ^ 63) (hL : L < 2 ^ 63) : ∀ (F M i a b : Nat), euN F a b = some r → F + i ≤ 100 → F < M → a < 2 ^ 63 → b < 2 ^ 63 → zW (zloop (fun s => f_X11_tellFraction_9 N x (nL S) (nL L) s.1 s.2.1 s.2.2 g) M (nL a, nL b, nI i)) (fun g' => zJ (SR (x + 3) (x + 4)) g g' ∧ XR g' (x + 3) (x + 4) [nL (S / r), nL (L / r)])
  | 0, _, _, _, _, h, _, _, _, _ => by cases h
  | F + 1, M, i, a, b, h, hi, hM, ha, hb => by
    obtain ⟨M', rfl⟩ : ∃ q, M = q + 1 := ⟨M - 1, by omega⟩
    rw [euN_s] at h
    refine zW_bind.mpr ?_
    show zW (f_X11_tellFraction_9 N x (nL S) (nL L) (nL a) (nL b) (nI i) g) _
    unfold f_X11_tellFraction_9 f_X11_tellFraction_44 f_X11_tellFraction_66
    rw [c_100, if_neg (nI_ge (by omega) (by omega))]
    by_cases e : b = 0
    · rw [if_pos e] at h
      injection h with h
      subst h
      have hz : ¬ nL a = 0 := fun h => by have := (nL_0 ha).mp h; omega
      rw [if_pos ((lg_cmp_le _ _).mpr ((nL_le0 hb).mpr e)), zW_map, if_neg (fun h => by have := (nL_le0 ha).mp ((lg_cmp_le _ _).mp h); omega)]
      refine w_rdR hC.1.s0 hC.1.r0_1 ?_
      rw [if_neg hz, if_neg hz]
      refine w_vs hC.1.s3 ((s_pair ⟨hC.1.s3, hC.1.s4, hC.1.r3_0⟩).bind (fun g2 h2 => ?_))
      rw [zW_some, zW_some]
      rw [nL_div hS ha, nL_div hL ha] at h2
      exact h2
    · rw [if_neg e] at h
      rw [if_neg (fun h => e ((nL_le0 hb).mp ((lg_cmp_le _ _).mp h))), if_neg (fun h => e ((nL_0 hb).mp h)), zW_some, nL_rem ha hb, c_1, nI_add]
      have hm := Nat.mod_lt a (show 0 < b by omega)
      exact c_frac hC hA hr hr2 hS hL F M' (i + 1) b (a % b) h (by omega) (by omega) hb (by omega)
theorem e_common {r : Nat} : ∀ (F a b G : Nat), euN F a b = some r → F ≤ G → a < 2 ^ 63 → b < 2 ^ 63 → f_grp_X12_common G (nL a) (nL b) = some (nL r)
  | 0, _, _, _, h, _, _, _ => by cases h
  | F + 1, a, b, G, h, hG, ha, hb => by
    obtain ⟨G', rfl⟩ : ∃ q, G = q + 1 := ⟨G - 1, by omega⟩
    rw [euN_s] at h
    show f_X12_common (f_grp_X12_common G') (nL a) (nL b) = _
    unfold f_X12_common f_X12_common_17
    by_cases e : b = 0
    · rw [if_pos e] at h
      injection h with h
      rw [if_pos ((lg_cmp_eq _ _).mpr ((nL_0 hb).mpr e)), h]
    · rw [if_neg e] at h
      have hm := Nat.mod_lt a (show 0 < b by omega)
      rw [if_neg (fun h => e ((nL_0 hb).mp ((lg_cmp_eq _ _).mp h))), if_neg (fun h => e ((nL_0 hb).mp h)), nL_rem ha hb, e_common F b (a % b) G' h (by omega) hb (by omega), Option.bind_some]
theorem p10 : ∀ n, n < 9 → 0 < 10 ^ n ∧ 10 ^ n < 2 ^ 36 := by decide +kernel
theorem k_sure (hN : 10000 ≤ N) (v u w : Int32) : Call (fun x g => f_X11_sure N x v u w g) (fun m g => f_X12_sure N m v u w g) := call_q (fun x m c g A hC hA hc => by
  have n6 := hA.1.1
  by_cases hvu : rb v 0 (an A) = true ∧ rb u 0 (10 + 1) = true ∧ rb w 0 (8 + 1) = true
  · obtain ⟨hv, hu, hw⟩ := hvu
    obtain ⟨q, -, hq, rfl⟩ := rb_t hv (by omega)
    obtain ⟨p, -, hp, rfl⟩ := rb_t hu (by omega)
    obtain ⟨k, -, hk, rfl⟩ := rb_t hw (by omega)
    obtain ⟨n, hn⟩ : ∃ n, n = (sayA A (aB A q) (ame A q)).length := ⟨_, rfl⟩
    have hn8 : n < 9 := by rw [hn]; have : (sayA A (aB A q) (ame A q)).length ≤ 8 := says_len; omega
    have hSl := sgN_lt n hn8 p hp k hk
    obtain ⟨hl1, hl2⟩ := p10 n hn8
    obtain ⟨S, hS⟩ : ∃ S, S = sgN n p k (n + 1) := ⟨_, rfl⟩
    obtain ⟨L, hL⟩ : ∃ L, L = 10 ^ n := ⟨_, rfl⟩
    rw [← hS] at hSl
    rw [← hL] at hl1 hl2
    have eg1 := eu2 (a := L) hSl
    have eg2 := eu2 (a := S) hl2
    rw [Nat.gcd_comm S L] at eg2
    have hr : 0 < Nat.gcd L S := Nat.gcd_pos_of_pos_left S hl1
    have hr2 : Nat.gcd L S ≤ L := Nat.gcd_le_left S hl1
    generalize Nat.gcd L S = r at eg1 eg2 hr hr2
    refine ⟨0, [nL (S / r), nL (L / r)], by simp, ?_, fun g' hR => ?_⟩
    · unfold QC f_X11_sure f_X11_sure_28
      refine w_vs hC.1.1.s0 (w_eq (e_ip11 hC.1 hA) ?_)
      rw [if_neg (bI_ne hv), c_0, c_10, c_8, rngB (by omega) (by omega), rngA (by omega) (by omega), if_pos hu, if_pos hw]
      refine c_say hN hC.1 hA hq (Or.inl ⟨rfl, rfl⟩) (fun g1 J1 T1 C1 => ?_)
      have t1 := T1.1
      rw [← hn] at t1
      refine zW_for (fun i (s : Int64 × Int32) => s.1 = pwL 10 i ∧ s.2 = nI i) n (fun i s hi hs => ?_) (fun s hs => ?_) (by omega) (Nat.zero_le _) ⟨rfl, rfl⟩
      · obtain ⟨y1, y2⟩ := s
        obtain ⟨h1, h2⟩ := hs
        dsimp only at h1 h2
        subst h1 h2
        show zW (f_X11_sure_60 N x (nI p) (nI k) (pwL 10 i) (nI i) g1) _
        unfold f_X11_sure_60
        refine w_rdR C1.1.s0 C1.1.r0_12 (w_rdI C1.1.TL480.f.1 t1 ?_)
        rw [if_neg (nI_ge hi (by omega)), zW_some, zI_inl, c_1, nI_add]
        exact ⟨rfl, rfl⟩
      · obtain ⟨y1, y2⟩ := s
        obtain ⟨h1, h2⟩ := hs
        dsimp only at h1 h2
        subst h1 h2
        show zW (f_X11_sure_60 N x (nI p) (nI k) (pwL 10 n) (nI n) g1) _
        unfold f_X11_sure_60
        refine w_rdR C1.1.s0 C1.1.r0_12 (w_rdI C1.1.TL480.f.1 t1 ?_)
        rw [if_pos (nI_le (Nat.le_refl _) (by omega)), zW_map]
        refine w_rdR C1.1.s0 C1.1.r0_12 (w_rdI C1.1.TL480.f.1 t1 (w_eq (e_ways hN hn8 hp hk) (w_vs C1.1.s0 ?_)))
        rw [pwL_e, ← hS, ← hL]
        refine zW.bind (P := fun g' => zJ (SR (x + 3) (x + 4)) g1 g' ∧ XR g' (x + 3) (x + 4) [nL (S / r), nL (L / r)]) ?_ (fun g3 h3 => ?_)
        · unfold f_X11_tellFraction
          exact c_frac C1 hA hr (by omega) (by omega) (by omega) _ N 0 L S eg1 (by omega) (by omega) (by omega) (by omega)
        · rw [zW_some]
          exact ⟨rfl, (J1.mono (fun a j z => by omega)).trans (h3.1.mono (fun a j z => by omega)), h3.2⟩
    · unfold QF f_X12_sure f_X12_sure_33
      refine r_start hR hA (fun g1 J0 hR1 _ => ?_)
      refine w_vs hR1.1.1.s0 (w_eq (e_ip hR1.1 hA) ?_)
      rw [if_neg (bI_ne hv), c_10, c_8, e_inz (by omega), Option.bind_some, if_neg (bI_ne hu), e_inz (by omega), Option.bind_some, if_neg (bI_ne hw)]
      refine w_rdR hR1.1.1.s0 hR1.1.1.r0 (w_rdR hR1.1.1.s0 hR1.1.1.r22 ?_)
      refine r_say hN hR1.1 hA (Or.inl rfl) hq (fun g2 J2 T2 R2 => ?_)
      dsimp only
      rw [← hn]
      refine zW_for (fun i (s : Int64 × Int64 × Int32) => s.1 = nL (sgN n p k i) ∧ s.2.1 = nL (bin n i) ∧ s.2.2 = nI i) (n + 1) (fun i s hi hs => ?_) (fun s hs => ?_) (by omega) (Nat.zero_le _) ⟨rfl, rfl, rfl⟩
      · obtain ⟨y1, y2, y3⟩ := s
        obtain ⟨h1, h2, h3⟩ := hs
        dsimp only at h1 h2 h3
        subst h1 h2 h3
        have hz : ¬ (nI (i + 1)).toInt64 = 0 := by
          rw [nIL _ (by omega), nL_0 (by omega)]; omega
        have hs : sgN n p k (i + 1) = if i < k then sgN n p k i else sgN n p k i + bin n i * p ^ i * (10 - p) ^ (n - i) := rfl
        show zW (f_X12_sure_59 N m (nI p) (nI k) (nI n) (nL (sgN n p k i)) (nL (bin n i)) (nI i) g2) _
        unfold f_X12_sure_59 f_X12_sure_102
        rw [if_neg (nI_nlt (by omega) (by omega)), c_1, nI_add, if_neg hz, nI_sub (show i ≤ n by omega), bin_s hn8 (by omega), c_10]
        by_cases e : i < k
        · rw [if_pos (nI_lt e (by omega)), zW_some, zI_inl, hs, if_pos e]
          exact ⟨Int64.add_zero _, rfl, rfl⟩
        · rw [if_neg (nI_nlt (by omega) (by omega)), nIL p (by omega), nIL10 p hp, e_pow12 hN (by omega), Option.bind_some, e_pow12 hN (by omega), Option.bind_some, if_neg hz, zW_some, zI_inl, hs, if_neg e, nL_mul, nL_mul, nL_add]
          exact ⟨rfl, rfl, rfl⟩
      · obtain ⟨y1, y2, y3⟩ := s
        obtain ⟨h1, h2, h3⟩ := hs
        dsimp only at h1 h2 h3
        subst h1 h2 h3
        show zW (f_X12_sure_59 N m (nI p) (nI k) (nI n) _ _ (nI (n + 1)) g2) _
        unfold f_X12_sure_59
        rw [if_pos (nI_lt (by omega) (by omega)), zW_map, show (10 : Int64) = nL 10 from rfl, e_pow12 hN (by omega), Option.bind_some, ← hS, ← hL]
        refine w_eq (e_common _ S L 100 eg2 (by omega) (by omega) (by omega)) ?_
        have hz : ¬ nL r = 0 := fun h => by have := (nL_0 (show r < 2 ^ 63 by omega)).mp h; omega
        have J9 : zJ (SW m) g2 (zsetI g2 m 9 0) := zJ.setI (Or.inl ⟨rfl, rfl⟩)
        rw [p_wrI R2.1.s0, Option.bind_some, if_neg hz]
        have R9 : RJ m (zsetI g2 m 9 0) A := R2.keep hA J9.toM (fun a j z => by omega)
        refine w_vs R9.1.s0 ((s_tell R9.1 RW.zero (by simp)).bind (fun g4 h4 => ?_))
        have R4 := R9.keep hA (h4.1.toM (m := m)) (fun a j z => by omega)
        rw [if_neg hz]
        refine w_vs R4.1.s0 ((s_tell R4.1 h4.2 (by simp)).bind (fun g5 h5 => ?_))
        rw [zW_some]
        obtain ⟨h51, h52⟩ := h5
        rw [nL_div (by omega) (by omega), nL_div (by omega) (by omega)] at h52
        exact ⟨rfl, (J0.trans (J2.mono (fun a j z => by omega))).trans ((((J9.trans h4.1).trans h51).toM (m := m)).mono (fun a j z => by omega)), h52⟩
  · refine ⟨-1, aR A, hA.2.2.2.2.1, ?_, fun g' hR => ?_⟩
    · unfold QC f_X11_sure f_X11_sure_28
      refine w_vs hC.1.1.s0 (w_eq (e_ip11 hC.1 hA) ?_)
      cases hv : rb v 0 (an A) with
      | false =>
        rw [if_pos (bI_eq rfl), zW_some]
        exact ⟨rfl, zJ.rfl, hC.2⟩
      | true =>
        rw [if_neg (bI_ne rfl), c_0, c_10, c_8, rngB (by omega) (by omega), rngA (by omega) (by omega)]
        cases hu : rb u 0 (10 + 1) with
        | false =>
          rw [if_neg Bool.false_ne_true, zW_some]
          exact ⟨rfl, zJ.rfl, hC.2⟩
        | true =>
          rw [if_pos rfl, if_neg (fun h => hvu ⟨hv, hu, h⟩), zW_some]
          exact ⟨rfl, zJ.rfl, hC.2⟩
    · unfold QF f_X12_sure f_X12_sure_33
      refine r_start hR hA (fun g1 J0 hR1 _ => ?_)
      refine w_vs hR1.1.1.s0 (w_eq (e_ip hR1.1 hA) ?_)
      cases hv : rb v 0 (an A) with
      | false =>
        rw [if_pos (bI_eq rfl), zW_some]
        exact ⟨rfl, J0, hR1.2⟩
      | true =>
        rw [if_neg (bI_ne rfl), c_10, c_8, e_inz (by omega), Option.bind_some]
        cases hu : rb u 0 (10 + 1) with
        | false =>
          rw [if_pos (bI_eq rfl), zW_some]
          exact ⟨rfl, J0, hR1.2⟩
        | true =>
          rw [if_neg (bI_ne rfl), e_inz (by omega), Option.bind_some, if_pos (bI_eq (Bool.eq_false_iff.mpr (fun h => hvu ⟨hv, hu, h⟩))), zW_some]
          exact ⟨rfl, J0, hR1.2⟩)
end SU1
