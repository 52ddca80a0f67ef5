/-! ===== numbers, loops, scenes ===== -/
theorem nI_div {a b : Nat} (ha : a < 2 ^ 31) (hb : b < 2 ^ 31) : nI a / nI b = nI (a / b) := (Int32.ofNat_div ha hb).symm
theorem nI_rem {a b : Nat} (ha : a < 2 ^ 31) (hb : b < 2 ^ 31) : nI a - nI a / nI b * nI b = nI (a % b) := by
  rw [nI_div ha hb, nI_mul, nI_sub (Nat.div_mul_le_self a b)]
  congr 1
  have := Nat.div_add_mod a b
  rw [Nat.mul_comm] at this
  omega
theorem xor_nn {a b : Int32} (ha : 0 ≤ a) (hb : 0 ≤ b) : 0 ≤ a ^^^ b := by
  have e : ∀ v : Int32, 0 ≤ v ↔ v.toBitVec.msb = false := fun v => by
    rw [Int32.le_iff_toInt_le]
    show (0 : Int) ≤ v.toBitVec.toInt ↔ _
    rw [BitVec.msb_eq_toInt, decide_eq_false_iff_not, Int.not_lt]
  rw [e] at ha hb ⊢
  rw [Int32.toBitVec_xor, BitVec.msb_xor, ha, hb]
  rfl
theorem fm {a b : Nat} (ha : a < 2 ^ 31) (hb : b < 2 ^ 31) (h0 : 0 < b) : f_J9_floorMod_7cf53 (nI a) (nI b) = some (nI (a % b)) := by
  unfold f_J9_floorMod_7cf53
  rw [if_neg (nI_ne0 h0 hb), if_pos (xor_nn (nI_pos' ha) (nI_pos' hb)), nI_rem ha hb]
  rfl
theorem mx {a b : Int32} : f_J9_max_7cf53 a b = some (if a < b then b else a) := by
  unfold f_J9_max_7cf53; split <;> rfl
theorem mn {a b : Int32} : f_J9_min_7cf53 a b = some (if b < a then b else a) := by
  unfold f_J9_min_7cf53; split <;> rfl
theorem zI_inl {S γ : Type} {P : S → Prop} {Q : γ → Prop} {s : S} : zI P Q (.inl s) = P s := rfl
theorem zI_inr {S γ : Type} {P : S → Prop} {Q : γ → Prop} {o : γ} : zI P Q (.inr o) = Q o := rfl
/-- for loops over (i, g) -/
theorem zW_forI {γ : Type} {body : Int32 × ZS → Option ((Int32 × ZS) ⊕ γ)} {Q : γ → Prop} (I : Nat → ZS → Prop) (n : Nat) (h : ∀ i g, i < n → I i g → zW (body (nI i, g)) (zI (fun s => s.1 = nI (i + 1) ∧ I (i + 1) s.2) Q)) (he : ∀ g, I n g → zW (body (nI n, g)) (zI (fun _ => False) Q)) {N : Nat} (hN : n < N) {i0 : Nat} {g0 : ZS} (hi : i0 ≤ n) (h0 : I i0 g0) : zW (zloop body N (nI i0, g0)) Q :=
  zW_for (fun i s => s.1 = nI i ∧ I i s.2) n (fun i s hi hs => by obtain ⟨a, g⟩ := s; obtain ⟨rfl, h2⟩ := hs; exact h i g hi h2) (fun s hs => by obtain ⟨a, g⟩ := s; obtain ⟨rfl, h2⟩ := hs; exact he g h2) hN hi ⟨rfl, h0⟩
/-- downward: from i0 to -1 -/
theorem zW.of {α : Type} {t : Option α} {Q : α → Prop} {r : α} (h : t = some r) (hq : Q r) : zW t Q := ⟨r, h, hq⟩
/-! copies of birds -/
def zcp (g : ZS) (a b n : Nat) : ZS := (g.1, (fun x y => if x = b ∧ y < n then zgi g a y else zgi g x y), g.2.2)
theorem zcopy_eq {g : ZS} {a b n : Nat} : zcopy g a b n = (zlen g a 20).bind fun la => (zlen g b 20).bind fun lb => if n ≤ la ∧ n ≤ lb then some (zcp g a b n) else none := rfl
theorem sh_cp {g : ZS} {a b n : Nat} : zsh (zcp g a b n) = zsh g := rfl
theorem gr_cp {g : ZS} {a b n : Nat} : zgr (zcp g a b n) = zgr g := rfl
theorem gl_cp {g : ZS} {a b n : Nat} : zgl (zcp g a b n) = zgl g := rfl
theorem gi_cp {g : ZS} {a b n x y : Nat} : zgi (zcp g a b n) x y = if x = b ∧ y < n then zgi g a y else zgi g x y := rfl
theorem zJ.cp' {S : Nat → Nat → Prop} {g g0 : ZS} {a b n : Nat} (h0 : zJ S g0 g) (h : ∀ j, j < n → S b j) : zJ S g0 (zcp g a b n) := h0.trans ⟨_root_.rfl, _root_.rfl, fun x y hS => ⟨by
  rw [gi_cp, if_neg]; rintro ⟨rfl, h2⟩; exact hS (h y h2), _root_.rfl⟩⟩
theorem s_cp {g : ZS} {a b n la lb : Nat} (ha : zsh g a = some (20, la)) (hb : zsh g b = some (20, lb)) (h1 : n ≤ la) (h2 : n ≤ lb) : zW (zcopy g a b n) (fun g' => zJ (fun x _ => x = b) g g' ∧ ∀ j, j < n → zgi g' b j = zgi g a j) := by
  refine ⟨zcp g a b n, ?_, zJ.rfl.cp' (fun _ _ => rfl), fun j hj => by rw [gi_cp, if_pos ⟨rfl, hj⟩]⟩
  rw [zcopy_eq, zlen_of ha, Option.bind_some, zlen_of hb, Option.bind_some, if_pos ⟨h1, h2⟩]
theorem s_copyB {g : ZS} {q r : Nat} {b : ZB} {me : Nat} (hq : BL (zh g) q) (hr : BL (zh g) r) (hd : q + 5 ≤ r ∨ r + 5 ≤ q) (hb : CB g r b) (hI : BI b) (hm : zgi g r 5 = nI me) : zW (f_X0_copyFrom q r g) (fun g' => zJ (fun a _ => q ≤ a ∧ a < q + 5) g g' ∧ CB g' q b ∧ zgi g' q 5 = nI me) := by
  obtain ⟨h1, h2, h3, h4, h5, h6, h7, h8, h9⟩ := hq.f
  obtain ⟨k1, k2, k3, k4, k5, k6, k7, k8, k9⟩ := hr.f
  obtain ⟨c1, c2, c3, c4, c5⟩ := hb
  have hc : bc b = 0 ∨ bc b = 1 := by have := hI.2.1; omega
  have hz : (nI (bc b) = nI 0 ∨ nI (bc b) = nI 1) := by rcases hc with e | e <;> rw [e] <;> simp
  unfold f_X0_copyFrom
  rw [p_rdR k1, k6, Option.bind_some, p_rdR h1, h6, Option.bind_some]
  refine (s_cp k2 h2 (by omega) (by omega)).bind (fun g1 w1 => ?_)
  obtain ⟨J1, e1⟩ := w1
  rw [p_rdR (by rw [J1.sh]; exact k1), J1.gr, k7, Option.bind_some, p_rdR (by rw [J1.sh]; exact h1), J1.gr, h7, Option.bind_some]
  refine (s_cp (by rw [J1.sh]; exact k3) (by rw [J1.sh]; exact h3) (by omega) (by omega)).bind (fun g2 w2 => ?_)
  obtain ⟨J2, e2⟩ := w2
  rw [p_rdR (by rw [J2.sh, J1.sh]; exact k1), J2.gr, J1.gr, k8, Option.bind_some, p_rdR (by rw [J2.sh, J1.sh]; exact h1), J2.gr, J1.gr, h8, Option.bind_some]
  refine (s_cp (by rw [J2.sh, J1.sh]; exact k4) (by rw [J2.sh, J1.sh]; exact h4) (by omega) (by omega)).bind (fun g3 w3 => ?_)
  obtain ⟨J3, e3⟩ := w3
  rw [p_rdR (by rw [J3.sh, J2.sh, J1.sh]; exact k1), J3.gr, J2.gr, J1.gr, k9, Option.bind_some, p_rdR (by rw [J3.sh, J2.sh, J1.sh]; exact h1), J3.gr, J2.gr, J1.gr, h9, Option.bind_some]
  refine (s_cp (by rw [J3.sh, J2.sh, J1.sh]; exact k5) (by rw [J3.sh, J2.sh, J1.sh]; exact h5) (by omega) (by omega)).bind (fun g4 w4 => ?_)
  obtain ⟨J4, e4⟩ := w4
  have J : zJ (fun a _ => q + 1 ≤ a ∧ a < q + 5) g g4 := (((J1.mono (fun a j x => ⟨by omega, by omega⟩)).trans (J2.mono (fun a j x => ⟨by omega, by omega⟩))).trans (J3.mono (fun a j x => ⟨by omega, by omega⟩))).trans (J4.mono (fun a j x => ⟨by omega, by omega⟩))
  have f1 : zgi g4 r 4 = nI (bh b) := by rw [J.gi (by omega)]; exact c1
  have f2 : zgi g4 r 6 = nI (bc b) := by rw [J.gi (by omega)]; exact c2
  have f3 : zgi g4 r 7 = nI (bn b) := by rw [J.gi (by omega)]; exact c3
  have f4 : zgi g4 r 8 = nI (bo b) := by rw [J.gi (by omega)]; exact c4
  have f5 : zgi g4 r 5 = nI me := by rw [J.gi (by omega)]; exact hm
  have u : ∀ w, w < 8 → zgi g4 (q + 1) w = nI (bO b w) ∧ zgi g4 (q + 2) w = nI (bF b w) ∧ zgi g4 (q + 3) w = nI (bL b w) ∧ zgi g4 (q + 4) w = nI (bT b w) := by
    intro w hw
    obtain ⟨d1, d2, d3, d4⟩ := c5 w hw
    refine ⟨?_, ?_, ?_, ?_⟩
    · rw [J4.gi (by omega), J3.gi (by omega), J2.gi (by omega), e1 w hw]; exact d1
    · rw [J4.gi (by omega), J3.gi (by omega), e2 w hw, J1.gi (by omega)]; exact d2
    · rw [J4.gi (by omega), e3 w hw, J2.gi (by omega), J1.gi (by omega)]; exact d3
    · rw [e4 w hw, J3.gi (by omega), J2.gi (by omega), J1.gi (by omega)]; exact d4
  have hne : q ≠ r := by omega
  have g1' : zsh g4 q = some (0, 0) := by rw [J.sh]; exact h1
  have g2' : zsh g4 r = some (0, 0) := by rw [J.sh]; exact k1
  clear e1 e2 e3 e4 J1 J2 J3 J4
  simp (disch := omega) only [Option.bind_some, Option.map_some, Option.bind_none, Option.bind_fun_none, zrdI, zrdR, zwrI, zwrR, zwrZ, zvs, zald, zast, zlald, zlast, zaald, zlen, sh_sI, sh_sL, sh_sR, gr_sI, gr_sL, gi_sL, gi_sR, gl_sI, gl_sR, sz_sI, sz_sL, sz_sR, gi_sI, gl_sL, gr_sR, nar20, nar22_0, nar22_1, narb0, narb1, nI_clamp, zin_nI, nI_leI, nI_ltI, nI_eq, nI_add, nI_mul, nI_sub, nI_dec, nI_lt0, nI_0le, neg1_lt, neg1_le, neg1_ne, neg1_ne2, reduceIte, eq_self, ite_true, ite_false, true_and, and_true, or_true, true_or, and_self, Nat.reduceEqDiff, Nat.reduceAdd, Nat.reduceMul, Nat.reduceSub, Nat.add_zero, Nat.zero_add, bh_mk, bc_mk, bn_mk, bo_mk, bO_mk, bF_mk, bL_mk, bT_mk, if_pos, if_neg, c_0, c_1, c_2, c_3, c_4, c_5, c_6, c_7, c_8, c_9, c_10, c_11, c_12, c_13, c_16, c_17, c_20, c_24, c_28, c_36, c_37, c_39, c_40, c_41, c_42, c_43, c_45, c_47, c_48, c_49, c_57, c_59, c_60, c_61, c_62, c_80, c_81, c_97, c_99, c_100, c_104, c_107, c_109, c_115, c_116, c_120, c_216, c_217, c_255, c_256, c_1000, c_2000, c_9999, c_1000000, g1', g2', f1, f2, f3, f4, f5, hz, zW_some]
  refine ⟨?_, ?_, ?_, ?_, ?_, fun w hw => ?_⟩
  · exact (((((J.mono (fun a j x => ⟨by omega, by omega⟩)).setI' ⟨by omega, by omega⟩).setI' ⟨by omega, by omega⟩).setI' ⟨by omega, by omega⟩).setI' ⟨by omega, by omega⟩).setI' ⟨by omega, by omega⟩
  · simp (disch := omega) only [Option.bind_some, Option.map_some, Option.bind_none, Option.bind_fun_none, zrdI, zrdR, zwrI, zwrR, zwrZ, zvs, zald, zast, zlald, zlast, zaald, zlen, sh_sI, sh_sL, sh_sR, gr_sI, gr_sL, gi_sL, gi_sR, gl_sI, gl_sR, sz_sI, sz_sL, sz_sR, gi_sI, gl_sL, gr_sR, nar20, nar22_0, nar22_1, narb0, narb1, nI_clamp, zin_nI, nI_leI, nI_ltI, nI_eq, nI_add, nI_mul, nI_sub, nI_dec, nI_lt0, nI_0le, neg1_lt, neg1_le, neg1_ne, neg1_ne2, reduceIte, eq_self, ite_true, ite_false, true_and, and_true, or_true, true_or, and_self, Nat.reduceEqDiff, Nat.reduceAdd, Nat.reduceMul, Nat.reduceSub, Nat.add_zero, Nat.zero_add, bh_mk, bc_mk, bn_mk, bo_mk, bO_mk, bF_mk, bL_mk, bT_mk, if_pos, if_neg, c_0, c_1, c_2, c_3, c_4, c_5, c_6, c_7, c_8, c_9, c_10, c_11, c_12, c_13, c_16, c_17, c_20, c_24, c_28, c_36, c_37, c_39, c_40, c_41, c_42, c_43, c_45, c_47, c_48, c_49, c_57, c_59, c_60, c_61, c_62, c_80, c_81, c_97, c_99, c_100, c_104, c_107, c_109, c_115, c_116, c_120, c_216, c_217, c_255, c_256, c_1000, c_2000, c_9999, c_1000000]
  · simp (disch := omega) only [Option.bind_some, Option.map_some, Option.bind_none, Option.bind_fun_none, zrdI, zrdR, zwrI, zwrR, zwrZ, zvs, zald, zast, zlald, zlast, zaald, zlen, sh_sI, sh_sL, sh_sR, gr_sI, gr_sL, gi_sL, gi_sR, gl_sI, gl_sR, sz_sI, sz_sL, sz_sR, gi_sI, gl_sL, gr_sR, nar20, nar22_0, nar22_1, narb0, narb1, nI_clamp, zin_nI, nI_leI, nI_ltI, nI_eq, nI_add, nI_mul, nI_sub, nI_dec, nI_lt0, nI_0le, neg1_lt, neg1_le, neg1_ne, neg1_ne2, reduceIte, eq_self, ite_true, ite_false, true_and, and_true, or_true, true_or, and_self, Nat.reduceEqDiff, Nat.reduceAdd, Nat.reduceMul, Nat.reduceSub, Nat.add_zero, Nat.zero_add, bh_mk, bc_mk, bn_mk, bo_mk, bO_mk, bF_mk, bL_mk, bT_mk, if_pos, if_neg, c_0, c_1, c_2, c_3, c_4, c_5, c_6, c_7, c_8, c_9, c_10, c_11, c_12, c_13, c_16, c_17, c_20, c_24, c_28, c_36, c_37, c_39, c_40, c_41, c_42, c_43, c_45, c_47, c_48, c_49, c_57, c_59, c_60, c_61, c_62, c_80, c_81, c_97, c_99, c_100, c_104, c_107, c_109, c_115, c_116, c_120, c_216, c_217, c_255, c_256, c_1000, c_2000, c_9999, c_1000000]
  · simp (disch := omega) only [Option.bind_some, Option.map_some, Option.bind_none, Option.bind_fun_none, zrdI, zrdR, zwrI, zwrR, zwrZ, zvs, zald, zast, zlald, zlast, zaald, zlen, sh_sI, sh_sL, sh_sR, gr_sI, gr_sL, gi_sL, gi_sR, gl_sI, gl_sR, sz_sI, sz_sL, sz_sR, gi_sI, gl_sL, gr_sR, nar20, nar22_0, nar22_1, narb0, narb1, nI_clamp, zin_nI, nI_leI, nI_ltI, nI_eq, nI_add, nI_mul, nI_sub, nI_dec, nI_lt0, nI_0le, neg1_lt, neg1_le, neg1_ne, neg1_ne2, reduceIte, eq_self, ite_true, ite_false, true_and, and_true, or_true, true_or, and_self, Nat.reduceEqDiff, Nat.reduceAdd, Nat.reduceMul, Nat.reduceSub, Nat.add_zero, Nat.zero_add, bh_mk, bc_mk, bn_mk, bo_mk, bO_mk, bF_mk, bL_mk, bT_mk, if_pos, if_neg, c_0, c_1, c_2, c_3, c_4, c_5, c_6, c_7, c_8, c_9, c_10, c_11, c_12, c_13, c_16, c_17, c_20, c_24, c_28, c_36, c_37, c_39, c_40, c_41, c_42, c_43, c_45, c_47, c_48, c_49, c_57, c_59, c_60, c_61, c_62, c_80, c_81, c_97, c_99, c_100, c_104, c_107, c_109, c_115, c_116, c_120, c_216, c_217, c_255, c_256, c_1000, c_2000, c_9999, c_1000000]
  · simp (disch := omega) only [Option.bind_some, Option.map_some, Option.bind_none, Option.bind_fun_none, zrdI, zrdR, zwrI, zwrR, zwrZ, zvs, zald, zast, zlald, zlast, zaald, zlen, sh_sI, sh_sL, sh_sR, gr_sI, gr_sL, gi_sL, gi_sR, gl_sI, gl_sR, sz_sI, sz_sL, sz_sR, gi_sI, gl_sL, gr_sR, nar20, nar22_0, nar22_1, narb0, narb1, nI_clamp, zin_nI, nI_leI, nI_ltI, nI_eq, nI_add, nI_mul, nI_sub, nI_dec, nI_lt0, nI_0le, neg1_lt, neg1_le, neg1_ne, neg1_ne2, reduceIte, eq_self, ite_true, ite_false, true_and, and_true, or_true, true_or, and_self, Nat.reduceEqDiff, Nat.reduceAdd, Nat.reduceMul, Nat.reduceSub, Nat.add_zero, Nat.zero_add, bh_mk, bc_mk, bn_mk, bo_mk, bO_mk, bF_mk, bL_mk, bT_mk, if_pos, if_neg, c_0, c_1, c_2, c_3, c_4, c_5, c_6, c_7, c_8, c_9, c_10, c_11, c_12, c_13, c_16, c_17, c_20, c_24, c_28, c_36, c_37, c_39, c_40, c_41, c_42, c_43, c_45, c_47, c_48, c_49, c_57, c_59, c_60, c_61, c_62, c_80, c_81, c_97, c_99, c_100, c_104, c_107, c_109, c_115, c_116, c_120, c_216, c_217, c_255, c_256, c_1000, c_2000, c_9999, c_1000000]
  · obtain ⟨d1, d2, d3, d4⟩ := u w hw
    simp (disch := omega) only [Option.bind_some, Option.map_some, Option.bind_none, Option.bind_fun_none, zrdI, zrdR, zwrI, zwrR, zwrZ, zvs, zald, zast, zlald, zlast, zaald, zlen, sh_sI, sh_sL, sh_sR, gr_sI, gr_sL, gi_sL, gi_sR, gl_sI, gl_sR, sz_sI, sz_sL, sz_sR, gi_sI, gl_sL, gr_sR, nar20, nar22_0, nar22_1, narb0, narb1, nI_clamp, zin_nI, nI_leI, nI_ltI, nI_eq, nI_add, nI_mul, nI_sub, nI_dec, nI_lt0, nI_0le, neg1_lt, neg1_le, neg1_ne, neg1_ne2, reduceIte, eq_self, ite_true, ite_false, true_and, and_true, or_true, true_or, and_self, Nat.reduceEqDiff, Nat.reduceAdd, Nat.reduceMul, Nat.reduceSub, Nat.add_zero, Nat.zero_add, bh_mk, bc_mk, bn_mk, bo_mk, bO_mk, bF_mk, bL_mk, bT_mk, if_pos, if_neg, c_0, c_1, c_2, c_3, c_4, c_5, c_6, c_7, c_8, c_9, c_10, c_11, c_12, c_13, c_16, c_17, c_20, c_24, c_28, c_36, c_37, c_39, c_40, c_41, c_42, c_43, c_45, c_47, c_48, c_49, c_57, c_59, c_60, c_61, c_62, c_80, c_81, c_97, c_99, c_100, c_104, c_107, c_109, c_115, c_116, c_120, c_216, c_217, c_255, c_256, c_1000, c_2000, c_9999, c_1000000, d1, d2, d3, d4]
/-! scenes -/
def CS (g : ZS) (s k d : Nat) (me : Nat → Nat) (B : Nat → ZB) : Prop := zgi g s 1 = nI k ∧ zgi g s 2 = nI d ∧ ∀ p, p < k → CB g (s + 2 + 5 * p) (B p) ∧ zgi g (s + 2 + 5 * p) 5 = nI (me p)
abbrev Ss (s : Nat) : Nat → Nat → Prop := fun a _ => s ≤ a ∧ a < s + 32
theorem CS.keep {S : Nat → Nat → Prop} {g g' : ZS} {s k d : Nat} {me : Nat → Nat} {B : Nat → ZB} (h : CS g s k d me B) (hk : k ≤ 6) (hE : zJ S g g') (hS : ∀ a j, Ss s a j → ¬ S a j) : CS g' s k d me B := by
  obtain ⟨h1, h2, h3⟩ := h
  refine ⟨by rw [hE.gi (hS _ _ ⟨by omega, by omega⟩)]; exact h1, by rw [hE.gi (hS _ _ ⟨by omega, by omega⟩)]; exact h2, fun p hp => ⟨(h3 p hp).1.keepJ hE (fun a j hs => hS a j ⟨by have := hs.1; omega, by have := hs.2.1; omega⟩), by rw [hE.gi (hS _ _ ⟨by omega, by omega⟩)]; exact (h3 p hp).2⟩⟩
def SI (k : Nat) (B : Nat → ZB) : Prop := ∀ p, p < k → BI (B p)
theorem s_copyS {N : Nat} (hN : 10000 ≤ N) {g : ZS} {s t k d : Nat} {me : Nat → Nat} {B : Nat → ZB} (hs : SL (zh g) s) (ht : SL (zh g) t) (hd : s + 32 ≤ t ∨ t + 32 ≤ s) (hk : k ≤ 6) (hb : CS g t k d me B) (hI : SI k B) : zW (f_X6_copyFrom N s t g) (fun g' => zJ (Ss s) g g' ∧ CS g' s k d me B) := by
  obtain ⟨a1, a2, a3, a4⟩ := hs.f
  obtain ⟨b1, b2, b3, b4⟩ := ht.f
  obtain ⟨c1, c2, c3⟩ := hb
  unfold f_X6_copyFrom
  simp (disch := omega) only [Option.bind_some, Option.map_some, Option.bind_none, Option.bind_fun_none, zrdI, zrdR, zwrI, zwrR, zwrZ, zvs, zald, zast, zlald, zlast, zaald, zlen, sh_sI, sh_sL, sh_sR, gr_sI, gr_sL, gi_sL, gi_sR, gl_sI, gl_sR, sz_sI, sz_sL, sz_sR, gi_sI, gl_sL, gr_sR, nar20, nar22_0, nar22_1, narb0, narb1, nI_clamp, zin_nI, nI_leI, nI_ltI, nI_eq, nI_add, nI_mul, nI_sub, nI_dec, nI_lt0, nI_0le, neg1_lt, neg1_le, neg1_ne, neg1_ne2, reduceIte, eq_self, ite_true, ite_false, true_and, and_true, or_true, true_or, and_self, Nat.reduceEqDiff, Nat.reduceAdd, Nat.reduceMul, Nat.reduceSub, Nat.add_zero, Nat.zero_add, bh_mk, bc_mk, bn_mk, bo_mk, bO_mk, bF_mk, bL_mk, bT_mk, if_pos, if_neg, c_0, c_1, c_2, c_3, c_4, c_5, c_6, c_7, c_8, c_9, c_10, c_11, c_12, c_13, c_16, c_17, c_20, c_24, c_28, c_36, c_37, c_39, c_40, c_41, c_42, c_43, c_45, c_47, c_48, c_49, c_57, c_59, c_60, c_61, c_62, c_80, c_81, c_97, c_99, c_100, c_104, c_107, c_109, c_115, c_116, c_120, c_216, c_217, c_255, c_256, c_1000, c_2000, c_9999, c_1000000, a1, a2, a3, b1, b2, b3, c1, c2]
  refine zW_forI (fun i g' => zJ (Ss s) g g' ∧ zgi g' s 1 = nI k ∧ zgi g' s 2 = nI d ∧ ∀ p, p < i → CB g' (s + 2 + 5 * p) (B p) ∧ zgi g' (s + 2 + 5 * p) 5 = nI (me p)) k (fun i g' hi hI' => ?_) (fun g' hI' => ?_) (by omega) (Nat.zero_le _) ⟨(zJ.rfl.setI' ⟨by omega, by omega⟩).setI' ⟨by omega, by omega⟩, by simp (disch := omega) only [Option.bind_some, Option.map_some, Option.bind_none, Option.bind_fun_none, zrdI, zrdR, zwrI, zwrR, zwrZ, zvs, zald, zast, zlald, zlast, zaald, zlen, sh_sI, sh_sL, sh_sR, gr_sI, gr_sL, gi_sL, gi_sR, gl_sI, gl_sR, sz_sI, sz_sL, sz_sR, gi_sI, gl_sL, gr_sR, nar20, nar22_0, nar22_1, narb0, narb1, nI_clamp, zin_nI, nI_leI, nI_ltI, nI_eq, nI_add, nI_mul, nI_sub, nI_dec, nI_lt0, nI_0le, neg1_lt, neg1_le, neg1_ne, neg1_ne2, reduceIte, eq_self, ite_true, ite_false, true_and, and_true, or_true, true_or, and_self, Nat.reduceEqDiff, Nat.reduceAdd, Nat.reduceMul, Nat.reduceSub, Nat.add_zero, Nat.zero_add, bh_mk, bc_mk, bn_mk, bo_mk, bO_mk, bF_mk, bL_mk, bT_mk, if_pos, if_neg, c_0, c_1, c_2, c_3, c_4, c_5, c_6, c_7, c_8, c_9, c_10, c_11, c_12, c_13, c_16, c_17, c_20, c_24, c_28, c_36, c_37, c_39, c_40, c_41, c_42, c_43, c_45, c_47, c_48, c_49, c_57, c_59, c_60, c_61, c_62, c_80, c_81, c_97, c_99, c_100, c_104, c_107, c_109, c_115, c_116, c_120, c_216, c_217, c_255, c_256, c_1000, c_2000, c_9999, c_1000000], by simp (disch := omega) only [Option.bind_some, Option.map_some, Option.bind_none, Option.bind_fun_none, zrdI, zrdR, zwrI, zwrR, zwrZ, zvs, zald, zast, zlald, zlast, zaald, zlen, sh_sI, sh_sL, sh_sR, gr_sI, gr_sL, gi_sL, gi_sR, gl_sI, gl_sR, sz_sI, sz_sL, sz_sR, gi_sI, gl_sL, gr_sR, nar20, nar22_0, nar22_1, narb0, narb1, nI_clamp, zin_nI, nI_leI, nI_ltI, nI_eq, nI_add, nI_mul, nI_sub, nI_dec, nI_lt0, nI_0le, neg1_lt, neg1_le, neg1_ne, neg1_ne2, reduceIte, eq_self, ite_true, ite_false, true_and, and_true, or_true, true_or, and_self, Nat.reduceEqDiff, Nat.reduceAdd, Nat.reduceMul, Nat.reduceSub, Nat.add_zero, Nat.zero_add, bh_mk, bc_mk, bn_mk, bo_mk, bO_mk, bF_mk, bL_mk, bT_mk, if_pos, if_neg, c_0, c_1, c_2, c_3, c_4, c_5, c_6, c_7, c_8, c_9, c_10, c_11, c_12, c_13, c_16, c_17, c_20, c_24, c_28, c_36, c_37, c_39, c_40, c_41, c_42, c_43, c_45, c_47, c_48, c_49, c_57, c_59, c_60, c_61, c_62, c_80, c_81, c_97, c_99, c_100, c_104, c_107, c_109, c_115, c_116, c_120, c_216, c_217, c_255, c_256, c_1000, c_2000, c_9999, c_1000000], fun p hp => by omega⟩
  · obtain ⟨hJ, e1, e2, e3⟩ := hI'
    obtain ⟨p1, p2⟩ := a4 i (by omega)
    obtain ⟨p3, p4⟩ := b4 i (by omega)
    have f1 : BL (zh g') (s + 2 + 5 * i) := by rw [hJ.1]; exact p2
    have f2 : BL (zh g') (t + 2 + 5 * i) := by rw [hJ.1]; exact p4
    show zW (f_X6_copyFrom_18 N s t (nI i) g') _
    unfold f_X6_copyFrom_18
    simp (disch := omega) only [Option.bind_some, Option.map_some, Option.bind_none, Option.bind_fun_none, zrdI, zrdR, zwrI, zwrR, zwrZ, zvs, zald, zast, zlald, zlast, zaald, zlen, sh_sI, sh_sL, sh_sR, gr_sI, gr_sL, gi_sL, gi_sR, gl_sI, gl_sR, sz_sI, sz_sL, sz_sR, gi_sI, gl_sL, gr_sR, nar20, nar22_0, nar22_1, narb0, narb1, nI_clamp, zin_nI, nI_leI, nI_ltI, nI_eq, nI_add, nI_mul, nI_sub, nI_dec, nI_lt0, nI_0le, neg1_lt, neg1_le, neg1_ne, neg1_ne2, reduceIte, eq_self, ite_true, ite_false, true_and, and_true, or_true, true_or, and_self, Nat.reduceEqDiff, Nat.reduceAdd, Nat.reduceMul, Nat.reduceSub, Nat.add_zero, Nat.zero_add, bh_mk, bc_mk, bn_mk, bo_mk, bO_mk, bF_mk, bL_mk, bT_mk, if_pos, if_neg, c_0, c_1, c_2, c_3, c_4, c_5, c_6, c_7, c_8, c_9, c_10, c_11, c_12, c_13, c_16, c_17, c_20, c_24, c_28, c_36, c_37, c_39, c_40, c_41, c_42, c_43, c_45, c_47, c_48, c_49, c_57, c_59, c_60, c_61, c_62, c_80, c_81, c_97, c_99, c_100, c_104, c_107, c_109, c_115, c_116, c_120, c_216, c_217, c_255, c_256, c_1000, c_2000, c_9999, c_1000000, hJ.sh, hJ.gr, a1, a2, a3, b1, b2, b3, e1, p1, p3, p2.f.1, p4.f.1]
    have f3 : zgi g' (t + 2 + 5 * i) 5 = nI (me i) := by rw [hJ.gi (by rintro ⟨x1, x2⟩; omega)]; exact (c3 i hi).2
    refine (s_copyB f1 f2 (by omega) ((c3 i hi).1.keepJ hJ (fun a j x y => by have := x.1; have := x.2.1; have := y.1; have := y.2; omega)) (hI i hi) f3).bind (fun g5 h5 => ?_)
    obtain ⟨q1, q2, q3⟩ := h5
    rw [zW_some, zI_inl]
    refine ⟨rfl, hJ.trans (q1.mono (fun a j x => ⟨by omega, by omega⟩)), by rw [q1.gi (by omega)]; exact e1, by rw [q1.gi (by omega)]; exact e2, fun p hp => ?_⟩
    by_cases e : p = i
    · subst e; exact ⟨q2, q3⟩
    · obtain ⟨y1, y2⟩ := e3 p (by omega)
      exact ⟨y1.keepJ q1 (fun a j x y => by have := x.1; have := x.2.1; omega), by rw [q1.gi (by omega)]; exact y2⟩
  · obtain ⟨hJ, e1, e2, e3⟩ := hI'
    show zW (f_X6_copyFrom_18 N s t (nI k) g') _
    unfold f_X6_copyFrom_18
    simp (disch := omega) only [Option.bind_some, Option.map_some, Option.bind_none, Option.bind_fun_none, zrdI, zrdR, zwrI, zwrR, zwrZ, zvs, zald, zast, zlald, zlast, zaald, zlen, sh_sI, sh_sL, sh_sR, gr_sI, gr_sL, gi_sL, gi_sR, gl_sI, gl_sR, sz_sI, sz_sL, sz_sR, gi_sI, gl_sL, gr_sR, nar20, nar22_0, nar22_1, narb0, narb1, nI_clamp, zin_nI, nI_leI, nI_ltI, nI_eq, nI_add, nI_mul, nI_sub, nI_dec, nI_lt0, nI_0le, neg1_lt, neg1_le, neg1_ne, neg1_ne2, reduceIte, eq_self, ite_true, ite_false, true_and, and_true, or_true, true_or, and_self, Nat.reduceEqDiff, Nat.reduceAdd, Nat.reduceMul, Nat.reduceSub, Nat.add_zero, Nat.zero_add, bh_mk, bc_mk, bn_mk, bo_mk, bO_mk, bF_mk, bL_mk, bT_mk, if_pos, if_neg, c_0, c_1, c_2, c_3, c_4, c_5, c_6, c_7, c_8, c_9, c_10, c_11, c_12, c_13, c_16, c_17, c_20, c_24, c_28, c_36, c_37, c_39, c_40, c_41, c_42, c_43, c_45, c_47, c_48, c_49, c_57, c_59, c_60, c_61, c_62, c_80, c_81, c_97, c_99, c_100, c_104, c_107, c_109, c_115, c_116, c_120, c_216, c_217, c_255, c_256, c_1000, c_2000, c_9999, c_1000000, hJ.sh, hJ.gr, a1, a2, a3, b1, b2, b3, e1, zW_some, zI_inr]
    exact ⟨hJ, e1, e2, e3⟩
