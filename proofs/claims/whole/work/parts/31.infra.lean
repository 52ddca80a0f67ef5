/-! ===== the pure layer, second foundation ===== -/
theorem nar20 {v : Int32} : vp_nar (zta 20) v = v := rfl
theorem nar21 {v : Int32} : vp_nar (zta 21) v = v.toInt8.toInt32 := rfl
theorem nar22_0 : vp_nar (zta 22) (nI 0) = nI 0 := rfl
theorem nar22_1 : vp_nar (zta 22) (nI 1) = nI 1 := rfl
theorem narb0 : vp_nar .boolean (nI 0) = nI 0 := rfl
theorem narb1 : vp_nar .boolean (nI 1) = nI 1 := rfl
theorem nI_mul (a b : Nat) : nI a * nI b = nI (a * b) := (Int32.ofNat_mul a b).symm
theorem nI_sub {a b : Nat} (h : b ≤ a) : nI a - nI b = nI (a - b) := by
  obtain ⟨c, rfl⟩ : ∃ c, a = b + c := ⟨a - b, by omega⟩
  rw [Nat.add_sub_cancel_left, ← nI_add, Int32.add_comm, Int32.add_sub_cancel]
theorem nI_dec {a : Nat} (h : 1 ≤ a) : nI a + (-1 : Int32) = nI (a - 1) := by
  rw [← nI_sub h]; exact (Int32.sub_eq_add_neg (a := nI a) (b := nI 1)).symm
theorem nI_lt0 {a : Nat} (h : a < 2 ^ 31) : (nI a < nI 0) ↔ False := ⟨fun x => nI_pos h x, False.elim⟩
theorem nI_0le {a : Nat} (h : a < 2 ^ 31) : (nI 0 ≤ nI a) ↔ True := ⟨fun _ => trivial, fun _ => nI_pos' h⟩
theorem neg1_lt {a : Nat} (h : a < 2 ^ 31) : ((-1 : Int32) < nI a) ↔ True := ⟨fun _ => trivial, fun _ => by
  rw [Int32.lt_iff_toInt_lt, nI_toInt h]; have : (-1 : Int32).toInt = -1 := rfl; omega⟩
theorem neg1_le {a : Nat} (h : a < 2 ^ 31) : (nI a ≤ (-1 : Int32)) ↔ False := ⟨fun x => by
  rw [Int32.le_iff_toInt_le, nI_toInt h] at x; have : (-1 : Int32).toInt = -1 := rfl; omega, False.elim⟩
theorem neg1_ne {a : Nat} (h : a < 2 ^ 31) : (nI a = (-1 : Int32)) ↔ False := ⟨fun x => by
  have := congrArg Int32.toInt x
  rw [nI_toInt h] at this; have : (-1 : Int32).toInt = -1 := rfl; omega, False.elim⟩
theorem neg1_ne2 {a : Nat} (h : a < 2 ^ 31) : ((-1 : Int32) = nI a) ↔ False := ⟨fun x => (neg1_ne h).mp x.symm, False.elim⟩
theorem c_13 : (13 : Int32) = nI 13 := rfl
theorem c_17 : (17 : Int32) = nI 17 := rfl
theorem c_24 : (24 : Int32) = nI 24 := rfl
theorem c_37 : (37 : Int32) = nI 37 := rfl
theorem c_39 : (39 : Int32) = nI 39 := rfl
theorem c_41 : (41 : Int32) = nI 41 := rfl
theorem c_42 : (42 : Int32) = nI 42 := rfl
theorem c_43 : (43 : Int32) = nI 43 := rfl
theorem c_45 : (45 : Int32) = nI 45 := rfl
theorem c_47 : (47 : Int32) = nI 47 := rfl
theorem c_48 : (48 : Int32) = nI 48 := rfl
theorem c_49 : (49 : Int32) = nI 49 := rfl
theorem c_57 : (57 : Int32) = nI 57 := rfl
theorem c_59 : (59 : Int32) = nI 59 := rfl
theorem c_61 : (61 : Int32) = nI 61 := rfl
theorem c_62 : (62 : Int32) = nI 62 := rfl
theorem c_81 : (81 : Int32) = nI 81 := rfl
theorem c_97 : (97 : Int32) = nI 97 := rfl
theorem c_100 : (100 : Int32) = nI 100 := rfl
theorem c_104 : (104 : Int32) = nI 104 := rfl
theorem c_107 : (107 : Int32) = nI 107 := rfl
theorem c_109 : (109 : Int32) = nI 109 := rfl
theorem c_115 : (115 : Int32) = nI 115 := rfl
theorem c_116 : (116 : Int32) = nI 116 := rfl
theorem c_120 : (120 : Int32) = nI 120 := rfl
theorem c_1000000 : (1000000 : Int32) = nI 1000000 := rfl
/-! shapes and references together -/
abbrev ZH : Type := (Nat → Option (Nat × Nat)) × (Nat → Nat → Option Nat)
def zh (g : ZS) : ZH := (g.1, g.2.2.2.1)
theorem zh_sh {g g' : ZS} (h : zh g' = zh g) : zsh g' = zsh g := congrArg (fun q : ZH => q.1) h
theorem zh_gr {g g' : ZS} (h : zh g' = zh g) : zgr g' = zgr g := congrArg (fun q : ZH => q.2) h
/-- the frame: ints and longs differ at places of S alone -/
def zJ (S : Nat → Nat → Prop) (g g' : ZS) : Prop := zh g' = zh g ∧ zsz g' = zsz g ∧ ∀ a j, ¬ S a j → zgi g' a j = zgi g a j ∧ zgl g' a j = zgl g a j
theorem zJ.rfl {S : Nat → Nat → Prop} {g : ZS} : zJ S g g := ⟨_root_.rfl, _root_.rfl, fun _ _ _ => ⟨_root_.rfl, _root_.rfl⟩⟩
theorem zJ.trans {S : Nat → Nat → Prop} {g g' g'' : ZS} (h : zJ S g g') (h' : zJ S g' g'') : zJ S g g'' :=
  ⟨h'.1.trans h.1, h'.2.1.trans h.2.1, fun a j hS => ⟨(h'.2.2 a j hS).1.trans (h.2.2 a j hS).1, (h'.2.2 a j hS).2.trans (h.2.2 a j hS).2⟩⟩
theorem zJ.mono {S S' : Nat → Nat → Prop} {g g' : ZS} (h : zJ S g g') (hS : ∀ a j, S a j → S' a j) : zJ S' g g' := ⟨h.1, h.2.1, fun a j hn => h.2.2 a j (fun hs => hn (hS a j hs))⟩
theorem zJ.setI {S : Nat → Nat → Prop} {g : ZS} {a j : Nat} {v : Int32} (h : S a j) : zJ S g (zsetI g a j v) := ⟨_root_.rfl, _root_.rfl, fun x y hS => ⟨by rw [gi_sI, if_neg (zne h hS)], _root_.rfl⟩⟩
theorem zJ.setL {S : Nat → Nat → Prop} {g : ZS} {a j : Nat} {v : Int64} (h : S a j) : zJ S g (zsetL g a j v) := ⟨_root_.rfl, _root_.rfl, fun x y hS => ⟨_root_.rfl, by rw [gl_sL, if_neg (zne h hS)]⟩⟩
theorem zJ.setI' {S : Nat → Nat → Prop} {g g0 : ZS} {a j : Nat} {v : Int32} (h0 : zJ S g0 g) (h : S a j) : zJ S g0 (zsetI g a j v) := h0.trans (zJ.setI h)
theorem zJ.setL' {S : Nat → Nat → Prop} {g g0 : ZS} {a j : Nat} {v : Int64} (h0 : zJ S g0 g) (h : S a j) : zJ S g0 (zsetL g a j v) := h0.trans (zJ.setL h)
theorem zJ.gi {S : Nat → Nat → Prop} {g g' : ZS} (h : zJ S g g') {a j : Nat} (hn : ¬ S a j) : zgi g' a j = zgi g a j := (h.2.2 a j hn).1
theorem zJ.gl {S : Nat → Nat → Prop} {g g' : ZS} (h : zJ S g g') {a j : Nat} (hn : ¬ S a j) : zgl g' a j = zgl g a j := (h.2.2 a j hn).2
theorem zJ.sh {S : Nat → Nat → Prop} {g g' : ZS} (h : zJ S g g') : zsh g' = zsh g := zh_sh h.1
theorem zJ.gr {S : Nat → Nat → Prop} {g g' : ZS} (h : zJ S g g') : zgr g' = zgr g := zh_gr h.1
theorem zJ.sz {S : Nat → Nat → Prop} {g g' : ZS} (h : zJ S g g') : zsz g' = zsz g := h.2.1
theorem zh_sI {g : ZS} {a j : Nat} {v : Int32} : zh (zsetI g a j v) = zh g := rfl
theorem zh_sL {g : ZS} {a j : Nat} {v : Int64} : zh (zsetL g a j v) = zh g := rfl
/-! layouts -/
def BL (h : ZH) (q : Nat) : Prop := h.1 q = some (0, 0) ∧ h.1 (q + 1) = some (20, 8) ∧ h.1 (q + 2) = some (20, 8) ∧ h.1 (q + 3) = some (20, 8) ∧ h.1 (q + 4) = some (20, 8) ∧ h.2 q 0 = some (q + 1) ∧ h.2 q 1 = some (q + 2) ∧ h.2 q 2 = some (q + 3) ∧ h.2 q 3 = some (q + 4)
theorem BL.f {g : ZS} {q : Nat} (h : BL (zh g) q) : zsh g q = some (0, 0) ∧ zsh g (q + 1) = some (20, 8) ∧ zsh g (q + 2) = some (20, 8) ∧ zsh g (q + 3) = some (20, 8) ∧ zsh g (q + 4) = some (20, 8) ∧ zgr g q 0 = some (q + 1) ∧ zgr g q 1 = some (q + 2) ∧ zgr g q 2 = some (q + 3) ∧ zgr g q 3 = some (q + 4) := h
def SL (h : ZH) (s : Nat) : Prop := h.1 s = some (6, 0) ∧ h.1 (s + 1) = some (25, 6) ∧ h.2 s 0 = some (s + 1) ∧ ∀ p, p < 6 → h.2 (s + 1) p = some (s + 2 + 5 * p) ∧ BL h (s + 2 + 5 * p)
theorem SL.f {g : ZS} {s : Nat} (h : SL (zh g) s) : zsh g s = some (6, 0) ∧ zsh g (s + 1) = some (25, 6) ∧ zgr g s 0 = some (s + 1) ∧ ∀ p, p < 6 → zgr g (s + 1) p = some (s + 2 + 5 * p) ∧ BL (zh g) (s + 2 + 5 * p) := h
def TL (h : ZH) (T : Nat) : Prop := h.1 T = some (10, 0) ∧ h.1 (T + 1) = some (20, 8) ∧ h.1 (T + 2) = some (20, 8) ∧ h.1 (T + 3) = some (27, 9) ∧ h.2 T 0 = some (T + 1) ∧ h.2 T 1 = some (T + 2) ∧ h.2 T 2 = some (T + 3) ∧ ∀ i, i < 9 → h.2 (T + 3) i = some (T + 4 + i) ∧ h.1 (T + 4 + i) = some (20, 9)
theorem TL.f {g : ZS} {T : Nat} (h : TL (zh g) T) : zsh g T = some (10, 0) ∧ zsh g (T + 1) = some (20, 8) ∧ zsh g (T + 2) = some (20, 8) ∧ zsh g (T + 3) = some (27, 9) ∧ zgr g T 0 = some (T + 1) ∧ zgr g T 1 = some (T + 2) ∧ zgr g T 2 = some (T + 3) ∧ ∀ i, i < 9 → zgr g (T + 3) i = some (T + 4 + i) ∧ zsh g (T + 4 + i) = some (20, 9) := h
def QL (h : ZH) (r : Nat) : Prop := h.1 r = some (5, 0) ∧ h.1 (r + 1) = some (20, 40) ∧ h.1 (r + 2) = some (20, 40) ∧ h.1 (r + 3) = some (20, 40) ∧ h.1 (r + 4) = some (22, 5) ∧ h.2 r 0 = some (r + 1) ∧ h.2 r 1 = some (r + 2) ∧ h.2 r 2 = some (r + 3) ∧ h.2 r 3 = some (r + 4)
theorem QL.f {g : ZS} {r : Nat} (h : QL (zh g) r) : zsh g r = some (5, 0) ∧ zsh g (r + 1) = some (20, 40) ∧ zsh g (r + 2) = some (20, 40) ∧ zsh g (r + 3) = some (20, 40) ∧ zsh g (r + 4) = some (22, 5) ∧ zgr g r 0 = some (r + 1) ∧ zgr g r 1 = some (r + 2) ∧ zgr g r 2 = some (r + 3) ∧ zgr g r 3 = some (r + 4) := h
def LC (x : Nat) (h : ZH) : Prop := h.1 x = some (11, 0) ∧ h.1 (x + 1) = some (8, 0) ∧ h.1 (x + 2) = some (23, 80) ∧ h.1 (x + 3) = some (9, 0) ∧ h.1 (x + 4) = some (24, 8) ∧ h.1 (x + 5) = some (2, 0) ∧ h.1 (x + 6) = some (27, 4) ∧ h.1 (x + 7) = some (20, 16) ∧ h.1 (x + 8) = some (20, 16) ∧ h.1 (x + 9) = some (20, 16) ∧ h.1 (x + 10) = some (20, 16) ∧ h.1 (x + 11) = some (20, 4) ∧ h.1 (x + 12) = some (20, 8) ∧ h.1 (x + 87) = some (4, 0) ∧ h.1 (x + 88) = some (26, 12) ∧ h.1 (x + 473) = some (26, 2) ∧ h.1 (x + 474) = some (22, 2) ∧ h.1 (x + 506) = some (7, 0) ∧ h.1 (x + 507) = some (20, 12) ∧ h.1 (x + 508) = some (20, 12) ∧ h.1 (x + 509) = some (20, 8) ∧ h.1 (x + 510) = some (20, 9) ∧ h.1 (x + 511) = some (20, 256) ∧ h.1 (x + 512) = some (3, 0) ∧ h.1 (x + 513) = some (20, 12) ∧ h.1 (x + 514) = some (20, 12) ∧ h.1 (x + 515) = some (20, 6) ∧ h.1 (x + 516) = some (20, 8) ∧ h.2 x 0 = some (x + 1) ∧ h.2 x 1 = some (x + 3) ∧ h.2 x 2 = some (x + 5) ∧ h.2 x 3 = some (x + 12) ∧ h.2 x 6 = some (x + 23) ∧ h.2 x 7 = some (x + 55) ∧ h.2 x 8 = some (x + 87) ∧ h.2 x 9 = some (x + 473) ∧ h.2 x 10 = some (x + 474) ∧ h.2 x 11 = some (x + 475) ∧ h.2 x 12 = some (x + 480) ∧ h.2 x 13 = some (x + 493) ∧ h.2 x 14 = some (x + 506) ∧ h.2 x 15 = some (x + 512) ∧ h.2 x 16 = some (x + 515) ∧ h.2 x 17 = some (x + 516) ∧ h.2 (x + 1) 0 = some (x + 2) ∧ h.2 (x + 3) 0 = some (x + 4) ∧ h.2 (x + 5) 0 = some (x + 6) ∧ h.2 (x + 5) 1 = some (x + 11) ∧ h.2 (x + 6) 0 = some (x + 7) ∧ h.2 (x + 6) 1 = some (x + 8) ∧ h.2 (x + 6) 2 = some (x + 9) ∧ h.2 (x + 6) 3 = some (x + 10) ∧ h.2 (x + 87) 0 = some (x + 88) ∧ h.2 (x + 473) 0 = some (x + 517) ∧ h.2 (x + 473) 1 = some (x + 549) ∧ h.2 (x + 506) 0 = some (x + 507) ∧ h.2 (x + 506) 1 = some (x + 508) ∧ h.2 (x + 506) 2 = some (x + 509) ∧ h.2 (x + 506) 3 = some (x + 510) ∧ h.2 (x + 506) 4 = some (x + 511) ∧ h.2 (x + 512) 0 = some (x + 513) ∧ h.2 (x + 512) 1 = some (x + 514) ∧ SL h (x + 23) ∧ SL h (x + 55) ∧ SL h (x + 517) ∧ SL h (x + 549) ∧ BL h (x + 475) ∧ TL h (x + 480) ∧ TL h (x + 493) ∧ QL h (x + 13) ∧ QL h (x + 18) ∧ ∀ i, i < 12 → SL h (x + 89 + 32 * i)
theorem LC.s0 {x : Nat} {g : ZS} (h : LC x (zh g)) : zsh g x = some (11, 0) := h.1
theorem LC.s1 {x : Nat} {g : ZS} (h : LC x (zh g)) : zsh g (x + 1) = some (8, 0) := h.2.1
theorem LC.s2 {x : Nat} {g : ZS} (h : LC x (zh g)) : zsh g (x + 2) = some (23, 80) := h.2.2.1
theorem LC.s3 {x : Nat} {g : ZS} (h : LC x (zh g)) : zsh g (x + 3) = some (9, 0) := h.2.2.2.1
theorem LC.s4 {x : Nat} {g : ZS} (h : LC x (zh g)) : zsh g (x + 4) = some (24, 8) := h.2.2.2.2.1
theorem LC.s5 {x : Nat} {g : ZS} (h : LC x (zh g)) : zsh g (x + 5) = some (2, 0) := h.2.2.2.2.2.1
theorem LC.s6 {x : Nat} {g : ZS} (h : LC x (zh g)) : zsh g (x + 6) = some (27, 4) := h.2.2.2.2.2.2.1
theorem LC.s7 {x : Nat} {g : ZS} (h : LC x (zh g)) : zsh g (x + 7) = some (20, 16) := h.2.2.2.2.2.2.2.1
theorem LC.s8 {x : Nat} {g : ZS} (h : LC x (zh g)) : zsh g (x + 8) = some (20, 16) := h.2.2.2.2.2.2.2.2.1
theorem LC.s9 {x : Nat} {g : ZS} (h : LC x (zh g)) : zsh g (x + 9) = some (20, 16) := h.2.2.2.2.2.2.2.2.2.1
theorem LC.s10 {x : Nat} {g : ZS} (h : LC x (zh g)) : zsh g (x + 10) = some (20, 16) := h.2.2.2.2.2.2.2.2.2.2.1
theorem LC.s11 {x : Nat} {g : ZS} (h : LC x (zh g)) : zsh g (x + 11) = some (20, 4) := h.2.2.2.2.2.2.2.2.2.2.2.1
theorem LC.s12 {x : Nat} {g : ZS} (h : LC x (zh g)) : zsh g (x + 12) = some (20, 8) := h.2.2.2.2.2.2.2.2.2.2.2.2.1
theorem LC.s87 {x : Nat} {g : ZS} (h : LC x (zh g)) : zsh g (x + 87) = some (4, 0) := h.2.2.2.2.2.2.2.2.2.2.2.2.2.1
theorem LC.s88 {x : Nat} {g : ZS} (h : LC x (zh g)) : zsh g (x + 88) = some (26, 12) := h.2.2.2.2.2.2.2.2.2.2.2.2.2.2.1
theorem LC.s473 {x : Nat} {g : ZS} (h : LC x (zh g)) : zsh g (x + 473) = some (26, 2) := h.2.2.2.2.2.2.2.2.2.2.2.2.2.2.2.1
theorem LC.s474 {x : Nat} {g : ZS} (h : LC x (zh g)) : zsh g (x + 474) = some (22, 2) := h.2.2.2.2.2.2.2.2.2.2.2.2.2.2.2.2.1
theorem LC.s506 {x : Nat} {g : ZS} (h : LC x (zh g)) : zsh g (x + 506) = some (7, 0) := h.2.2.2.2.2.2.2.2.2.2.2.2.2.2.2.2.2.1
theorem LC.s507 {x : Nat} {g : ZS} (h : LC x (zh g)) : zsh g (x + 507) = some (20, 12) := h.2.2.2.2.2.2.2.2.2.2.2.2.2.2.2.2.2.2.1
theorem LC.s508 {x : Nat} {g : ZS} (h : LC x (zh g)) : zsh g (x + 508) = some (20, 12) := h.2.2.2.2.2.2.2.2.2.2.2.2.2.2.2.2.2.2.2.1
theorem LC.s509 {x : Nat} {g : ZS} (h : LC x (zh g)) : zsh g (x + 509) = some (20, 8) := h.2.2.2.2.2.2.2.2.2.2.2.2.2.2.2.2.2.2.2.2.1
theorem LC.s510 {x : Nat} {g : ZS} (h : LC x (zh g)) : zsh g (x + 510) = some (20, 9) := h.2.2.2.2.2.2.2.2.2.2.2.2.2.2.2.2.2.2.2.2.2.1
theorem LC.s511 {x : Nat} {g : ZS} (h : LC x (zh g)) : zsh g (x + 511) = some (20, 256) := h.2.2.2.2.2.2.2.2.2.2.2.2.2.2.2.2.2.2.2.2.2.2.1
theorem LC.s512 {x : Nat} {g : ZS} (h : LC x (zh g)) : zsh g (x + 512) = some (3, 0) := h.2.2.2.2.2.2.2.2.2.2.2.2.2.2.2.2.2.2.2.2.2.2.2.1
theorem LC.s513 {x : Nat} {g : ZS} (h : LC x (zh g)) : zsh g (x + 513) = some (20, 12) := h.2.2.2.2.2.2.2.2.2.2.2.2.2.2.2.2.2.2.2.2.2.2.2.2.1
theorem LC.s514 {x : Nat} {g : ZS} (h : LC x (zh g)) : zsh g (x + 514) = some (20, 12) := h.2.2.2.2.2.2.2.2.2.2.2.2.2.2.2.2.2.2.2.2.2.2.2.2.2.1
theorem LC.s515 {x : Nat} {g : ZS} (h : LC x (zh g)) : zsh g (x + 515) = some (20, 6) := h.2.2.2.2.2.2.2.2.2.2.2.2.2.2.2.2.2.2.2.2.2.2.2.2.2.2.1
theorem LC.s516 {x : Nat} {g : ZS} (h : LC x (zh g)) : zsh g (x + 516) = some (20, 8) := h.2.2.2.2.2.2.2.2.2.2.2.2.2.2.2.2.2.2.2.2.2.2.2.2.2.2.2.1
theorem LC.r0_0 {x : Nat} {g : ZS} (h : LC x (zh g)) : zgr g x 0 = some (x + 1) := h.2.2.2.2.2.2.2.2.2.2.2.2.2.2.2.2.2.2.2.2.2.2.2.2.2.2.2.2.1
theorem LC.r0_1 {x : Nat} {g : ZS} (h : LC x (zh g)) : zgr g x 1 = some (x + 3) := h.2.2.2.2.2.2.2.2.2.2.2.2.2.2.2.2.2.2.2.2.2.2.2.2.2.2.2.2.2.1
theorem LC.r0_2 {x : Nat} {g : ZS} (h : LC x (zh g)) : zgr g x 2 = some (x + 5) := h.2.2.2.2.2.2.2.2.2.2.2.2.2.2.2.2.2.2.2.2.2.2.2.2.2.2.2.2.2.2.1
theorem LC.r0_3 {x : Nat} {g : ZS} (h : LC x (zh g)) : zgr g x 3 = some (x + 12) := h.2.2.2.2.2.2.2.2.2.2.2.2.2.2.2.2.2.2.2.2.2.2.2.2.2.2.2.2.2.2.2.1
theorem LC.r0_6 {x : Nat} {g : ZS} (h : LC x (zh g)) : zgr g x 6 = some (x + 23) := h.2.2.2.2.2.2.2.2.2.2.2.2.2.2.2.2.2.2.2.2.2.2.2.2.2.2.2.2.2.2.2.2.1
theorem LC.r0_7 {x : Nat} {g : ZS} (h : LC x (zh g)) : zgr g x 7 = some (x + 55) := h.2.2.2.2.2.2.2.2.2.2.2.2.2.2.2.2.2.2.2.2.2.2.2.2.2.2.2.2.2.2.2.2.2.1
theorem LC.r0_8 {x : Nat} {g : ZS} (h : LC x (zh g)) : zgr g x 8 = some (x + 87) := h.2.2.2.2.2.2.2.2.2.2.2.2.2.2.2.2.2.2.2.2.2.2.2.2.2.2.2.2.2.2.2.2.2.2.1
theorem LC.r0_9 {x : Nat} {g : ZS} (h : LC x (zh g)) : zgr g x 9 = some (x + 473) := h.2.2.2.2.2.2.2.2.2.2.2.2.2.2.2.2.2.2.2.2.2.2.2.2.2.2.2.2.2.2.2.2.2.2.2.1
theorem LC.r0_10 {x : Nat} {g : ZS} (h : LC x (zh g)) : zgr g x 10 = some (x + 474) := h.2.2.2.2.2.2.2.2.2.2.2.2.2.2.2.2.2.2.2.2.2.2.2.2.2.2.2.2.2.2.2.2.2.2.2.2.1
theorem LC.r0_11 {x : Nat} {g : ZS} (h : LC x (zh g)) : zgr g x 11 = some (x + 475) := h.2.2.2.2.2.2.2.2.2.2.2.2.2.2.2.2.2.2.2.2.2.2.2.2.2.2.2.2.2.2.2.2.2.2.2.2.2.1
theorem LC.r0_12 {x : Nat} {g : ZS} (h : LC x (zh g)) : zgr g x 12 = some (x + 480) := h.2.2.2.2.2.2.2.2.2.2.2.2.2.2.2.2.2.2.2.2.2.2.2.2.2.2.2.2.2.2.2.2.2.2.2.2.2.2.1
theorem LC.r0_13 {x : Nat} {g : ZS} (h : LC x (zh g)) : zgr g x 13 = some (x + 493) := h.2.2.2.2.2.2.2.2.2.2.2.2.2.2.2.2.2.2.2.2.2.2.2.2.2.2.2.2.2.2.2.2.2.2.2.2.2.2.2.1
theorem LC.r0_14 {x : Nat} {g : ZS} (h : LC x (zh g)) : zgr g x 14 = some (x + 506) := h.2.2.2.2.2.2.2.2.2.2.2.2.2.2.2.2.2.2.2.2.2.2.2.2.2.2.2.2.2.2.2.2.2.2.2.2.2.2.2.2.1
theorem LC.r0_15 {x : Nat} {g : ZS} (h : LC x (zh g)) : zgr g x 15 = some (x + 512) := h.2.2.2.2.2.2.2.2.2.2.2.2.2.2.2.2.2.2.2.2.2.2.2.2.2.2.2.2.2.2.2.2.2.2.2.2.2.2.2.2.2.1
theorem LC.r0_16 {x : Nat} {g : ZS} (h : LC x (zh g)) : zgr g x 16 = some (x + 515) := h.2.2.2.2.2.2.2.2.2.2.2.2.2.2.2.2.2.2.2.2.2.2.2.2.2.2.2.2.2.2.2.2.2.2.2.2.2.2.2.2.2.2.1
theorem LC.r0_17 {x : Nat} {g : ZS} (h : LC x (zh g)) : zgr g x 17 = some (x + 516) := h.2.2.2.2.2.2.2.2.2.2.2.2.2.2.2.2.2.2.2.2.2.2.2.2.2.2.2.2.2.2.2.2.2.2.2.2.2.2.2.2.2.2.2.1
theorem LC.r1_0 {x : Nat} {g : ZS} (h : LC x (zh g)) : zgr g (x + 1) 0 = some (x + 2) := h.2.2.2.2.2.2.2.2.2.2.2.2.2.2.2.2.2.2.2.2.2.2.2.2.2.2.2.2.2.2.2.2.2.2.2.2.2.2.2.2.2.2.2.2.1
theorem LC.r3_0 {x : Nat} {g : ZS} (h : LC x (zh g)) : zgr g (x + 3) 0 = some (x + 4) := h.2.2.2.2.2.2.2.2.2.2.2.2.2.2.2.2.2.2.2.2.2.2.2.2.2.2.2.2.2.2.2.2.2.2.2.2.2.2.2.2.2.2.2.2.2.1
theorem LC.r5_0 {x : Nat} {g : ZS} (h : LC x (zh g)) : zgr g (x + 5) 0 = some (x + 6) := h.2.2.2.2.2.2.2.2.2.2.2.2.2.2.2.2.2.2.2.2.2.2.2.2.2.2.2.2.2.2.2.2.2.2.2.2.2.2.2.2.2.2.2.2.2.2.1
theorem LC.r5_1 {x : Nat} {g : ZS} (h : LC x (zh g)) : zgr g (x + 5) 1 = some (x + 11) := h.2.2.2.2.2.2.2.2.2.2.2.2.2.2.2.2.2.2.2.2.2.2.2.2.2.2.2.2.2.2.2.2.2.2.2.2.2.2.2.2.2.2.2.2.2.2.2.1
theorem LC.r6_0 {x : Nat} {g : ZS} (h : LC x (zh g)) : zgr g (x + 6) 0 = some (x + 7) := h.2.2.2.2.2.2.2.2.2.2.2.2.2.2.2.2.2.2.2.2.2.2.2.2.2.2.2.2.2.2.2.2.2.2.2.2.2.2.2.2.2.2.2.2.2.2.2.2.1
theorem LC.r6_1 {x : Nat} {g : ZS} (h : LC x (zh g)) : zgr g (x + 6) 1 = some (x + 8) := h.2.2.2.2.2.2.2.2.2.2.2.2.2.2.2.2.2.2.2.2.2.2.2.2.2.2.2.2.2.2.2.2.2.2.2.2.2.2.2.2.2.2.2.2.2.2.2.2.2.1
theorem LC.r6_2 {x : Nat} {g : ZS} (h : LC x (zh g)) : zgr g (x + 6) 2 = some (x + 9) := h.2.2.2.2.2.2.2.2.2.2.2.2.2.2.2.2.2.2.2.2.2.2.2.2.2.2.2.2.2.2.2.2.2.2.2.2.2.2.2.2.2.2.2.2.2.2.2.2.2.2.1
theorem LC.r6_3 {x : Nat} {g : ZS} (h : LC x (zh g)) : zgr g (x + 6) 3 = some (x + 10) := h.2.2.2.2.2.2.2.2.2.2.2.2.2.2.2.2.2.2.2.2.2.2.2.2.2.2.2.2.2.2.2.2.2.2.2.2.2.2.2.2.2.2.2.2.2.2.2.2.2.2.2.1
theorem LC.r87_0 {x : Nat} {g : ZS} (h : LC x (zh g)) : zgr g (x + 87) 0 = some (x + 88) := h.2.2.2.2.2.2.2.2.2.2.2.2.2.2.2.2.2.2.2.2.2.2.2.2.2.2.2.2.2.2.2.2.2.2.2.2.2.2.2.2.2.2.2.2.2.2.2.2.2.2.2.2.1
theorem LC.r473_0 {x : Nat} {g : ZS} (h : LC x (zh g)) : zgr g (x + 473) 0 = some (x + 517) := h.2.2.2.2.2.2.2.2.2.2.2.2.2.2.2.2.2.2.2.2.2.2.2.2.2.2.2.2.2.2.2.2.2.2.2.2.2.2.2.2.2.2.2.2.2.2.2.2.2.2.2.2.2.1
theorem LC.r473_1 {x : Nat} {g : ZS} (h : LC x (zh g)) : zgr g (x + 473) 1 = some (x + 549) := h.2.2.2.2.2.2.2.2.2.2.2.2.2.2.2.2.2.2.2.2.2.2.2.2.2.2.2.2.2.2.2.2.2.2.2.2.2.2.2.2.2.2.2.2.2.2.2.2.2.2.2.2.2.2.1
theorem LC.r506_0 {x : Nat} {g : ZS} (h : LC x (zh g)) : zgr g (x + 506) 0 = some (x + 507) := h.2.2.2.2.2.2.2.2.2.2.2.2.2.2.2.2.2.2.2.2.2.2.2.2.2.2.2.2.2.2.2.2.2.2.2.2.2.2.2.2.2.2.2.2.2.2.2.2.2.2.2.2.2.2.2.1
theorem LC.r506_1 {x : Nat} {g : ZS} (h : LC x (zh g)) : zgr g (x + 506) 1 = some (x + 508) := h.2.2.2.2.2.2.2.2.2.2.2.2.2.2.2.2.2.2.2.2.2.2.2.2.2.2.2.2.2.2.2.2.2.2.2.2.2.2.2.2.2.2.2.2.2.2.2.2.2.2.2.2.2.2.2.2.1
theorem LC.r506_2 {x : Nat} {g : ZS} (h : LC x (zh g)) : zgr g (x + 506) 2 = some (x + 509) := h.2.2.2.2.2.2.2.2.2.2.2.2.2.2.2.2.2.2.2.2.2.2.2.2.2.2.2.2.2.2.2.2.2.2.2.2.2.2.2.2.2.2.2.2.2.2.2.2.2.2.2.2.2.2.2.2.2.1
theorem LC.r506_3 {x : Nat} {g : ZS} (h : LC x (zh g)) : zgr g (x + 506) 3 = some (x + 510) := h.2.2.2.2.2.2.2.2.2.2.2.2.2.2.2.2.2.2.2.2.2.2.2.2.2.2.2.2.2.2.2.2.2.2.2.2.2.2.2.2.2.2.2.2.2.2.2.2.2.2.2.2.2.2.2.2.2.2.1
theorem LC.r506_4 {x : Nat} {g : ZS} (h : LC x (zh g)) : zgr g (x + 506) 4 = some (x + 511) := h.2.2.2.2.2.2.2.2.2.2.2.2.2.2.2.2.2.2.2.2.2.2.2.2.2.2.2.2.2.2.2.2.2.2.2.2.2.2.2.2.2.2.2.2.2.2.2.2.2.2.2.2.2.2.2.2.2.2.2.1
theorem LC.r512_0 {x : Nat} {g : ZS} (h : LC x (zh g)) : zgr g (x + 512) 0 = some (x + 513) := h.2.2.2.2.2.2.2.2.2.2.2.2.2.2.2.2.2.2.2.2.2.2.2.2.2.2.2.2.2.2.2.2.2.2.2.2.2.2.2.2.2.2.2.2.2.2.2.2.2.2.2.2.2.2.2.2.2.2.2.2.1
theorem LC.r512_1 {x : Nat} {g : ZS} (h : LC x (zh g)) : zgr g (x + 512) 1 = some (x + 514) := h.2.2.2.2.2.2.2.2.2.2.2.2.2.2.2.2.2.2.2.2.2.2.2.2.2.2.2.2.2.2.2.2.2.2.2.2.2.2.2.2.2.2.2.2.2.2.2.2.2.2.2.2.2.2.2.2.2.2.2.2.2.1
theorem LC.SL23 {x : Nat} {g : ZS} (h : LC x (zh g)) : SL (zh g) (x + 23) := h.2.2.2.2.2.2.2.2.2.2.2.2.2.2.2.2.2.2.2.2.2.2.2.2.2.2.2.2.2.2.2.2.2.2.2.2.2.2.2.2.2.2.2.2.2.2.2.2.2.2.2.2.2.2.2.2.2.2.2.2.2.2.1
theorem LC.SL55 {x : Nat} {g : ZS} (h : LC x (zh g)) : SL (zh g) (x + 55) := h.2.2.2.2.2.2.2.2.2.2.2.2.2.2.2.2.2.2.2.2.2.2.2.2.2.2.2.2.2.2.2.2.2.2.2.2.2.2.2.2.2.2.2.2.2.2.2.2.2.2.2.2.2.2.2.2.2.2.2.2.2.2.2.1
theorem LC.SL517 {x : Nat} {g : ZS} (h : LC x (zh g)) : SL (zh g) (x + 517) := h.2.2.2.2.2.2.2.2.2.2.2.2.2.2.2.2.2.2.2.2.2.2.2.2.2.2.2.2.2.2.2.2.2.2.2.2.2.2.2.2.2.2.2.2.2.2.2.2.2.2.2.2.2.2.2.2.2.2.2.2.2.2.2.2.1
theorem LC.SL549 {x : Nat} {g : ZS} (h : LC x (zh g)) : SL (zh g) (x + 549) := h.2.2.2.2.2.2.2.2.2.2.2.2.2.2.2.2.2.2.2.2.2.2.2.2.2.2.2.2.2.2.2.2.2.2.2.2.2.2.2.2.2.2.2.2.2.2.2.2.2.2.2.2.2.2.2.2.2.2.2.2.2.2.2.2.2.1
theorem LC.BL475 {x : Nat} {g : ZS} (h : LC x (zh g)) : BL (zh g) (x + 475) := h.2.2.2.2.2.2.2.2.2.2.2.2.2.2.2.2.2.2.2.2.2.2.2.2.2.2.2.2.2.2.2.2.2.2.2.2.2.2.2.2.2.2.2.2.2.2.2.2.2.2.2.2.2.2.2.2.2.2.2.2.2.2.2.2.2.2.1
theorem LC.TL480 {x : Nat} {g : ZS} (h : LC x (zh g)) : TL (zh g) (x + 480) := h.2.2.2.2.2.2.2.2.2.2.2.2.2.2.2.2.2.2.2.2.2.2.2.2.2.2.2.2.2.2.2.2.2.2.2.2.2.2.2.2.2.2.2.2.2.2.2.2.2.2.2.2.2.2.2.2.2.2.2.2.2.2.2.2.2.2.2.1
theorem LC.TL493 {x : Nat} {g : ZS} (h : LC x (zh g)) : TL (zh g) (x + 493) := h.2.2.2.2.2.2.2.2.2.2.2.2.2.2.2.2.2.2.2.2.2.2.2.2.2.2.2.2.2.2.2.2.2.2.2.2.2.2.2.2.2.2.2.2.2.2.2.2.2.2.2.2.2.2.2.2.2.2.2.2.2.2.2.2.2.2.2.2.1
theorem LC.QL13 {x : Nat} {g : ZS} (h : LC x (zh g)) : QL (zh g) (x + 13) := h.2.2.2.2.2.2.2.2.2.2.2.2.2.2.2.2.2.2.2.2.2.2.2.2.2.2.2.2.2.2.2.2.2.2.2.2.2.2.2.2.2.2.2.2.2.2.2.2.2.2.2.2.2.2.2.2.2.2.2.2.2.2.2.2.2.2.2.2.2.1
theorem LC.QL18 {x : Nat} {g : ZS} (h : LC x (zh g)) : QL (zh g) (x + 18) := h.2.2.2.2.2.2.2.2.2.2.2.2.2.2.2.2.2.2.2.2.2.2.2.2.2.2.2.2.2.2.2.2.2.2.2.2.2.2.2.2.2.2.2.2.2.2.2.2.2.2.2.2.2.2.2.2.2.2.2.2.2.2.2.2.2.2.2.2.2.2.1
theorem LC.past {x : Nat} {g : ZS} (h : LC x (zh g)) : ∀ i, i < 12 → SL (zh g) (x + 89 + 32 * i) := h.2.2.2.2.2.2.2.2.2.2.2.2.2.2.2.2.2.2.2.2.2.2.2.2.2.2.2.2.2.2.2.2.2.2.2.2.2.2.2.2.2.2.2.2.2.2.2.2.2.2.2.2.2.2.2.2.2.2.2.2.2.2.2.2.2.2.2.2.2.2.2
def LR (m : Nat) (h : ZH) : Prop := h.1 m = some (12, 0) ∧ h.1 (m + 1) = some (20, 217) ∧ h.1 (m + 2) = some (20, 6) ∧ h.1 (m + 3) = some (20, 8) ∧ h.1 (m + 4) = some (20, 64) ∧ h.1 (m + 5) = some (20, 4) ∧ h.1 (m + 6) = some (21, 80) ∧ h.1 (m + 7) = some (24, 16) ∧ h.1 (m + 8) = some (20, 80) ∧ h.1 (m + 9) = some (21, 40) ∧ h.1 (m + 10) = some (21, 40) ∧ h.1 (m + 11) = some (20, 7) ∧ h.1 (m + 12) = some (20, 8) ∧ h.1 (m + 13) = some (20, 8) ∧ h.1 (m + 14) = some (20, 8) ∧ h.1 (m + 15) = some (20, 2604) ∧ h.1 (m + 16) = some (20, 217) ∧ h.1 (m + 17) = some (20, 217) ∧ h.1 (m + 18) = some (20, 240) ∧ h.1 (m + 19) = some (20, 6) ∧ h.1 (m + 20) = some (20, 17) ∧ h.1 (m + 21) = some (20, 8) ∧ h.1 (m + 22) = some (20, 8) ∧ h.1 (m + 23) = some (20, 12) ∧ h.1 (m + 24) = some (20, 12) ∧ h.1 (m + 25) = some (20, 8) ∧ h.1 (m + 26) = some (20, 81) ∧ h.1 (m + 27) = some (20, 12) ∧ h.1 (m + 28) = some (20, 12) ∧ h.1 (m + 29) = some (20, 6) ∧ h.1 (m + 30) = some (20, 434) ∧ h.1 (m + 31) = some (22, 2) ∧ h.1 (m + 32) = some (20, 2) ∧ h.2 m 0 = some (m + 1) ∧ h.2 m 2 = some (m + 2) ∧ h.2 m 3 = some (m + 3) ∧ h.2 m 4 = some (m + 4) ∧ h.2 m 5 = some (m + 5) ∧ h.2 m 6 = some (m + 6) ∧ h.2 m 8 = some (m + 7) ∧ h.2 m 16 = some (m + 8) ∧ h.2 m 21 = some (m + 11) ∧ h.2 m 22 = some (m + 12) ∧ h.2 m 23 = some (m + 13) ∧ h.2 m 24 = some (m + 14) ∧ h.2 m 25 = some (m + 15) ∧ h.2 m 27 = some (m + 16) ∧ h.2 m 28 = some (m + 17) ∧ h.2 m 29 = some (m + 18) ∧ h.2 m 30 = some (m + 19) ∧ h.2 m 31 = some (m + 20) ∧ h.2 m 32 = some (m + 21) ∧ h.2 m 33 = some (m + 22) ∧ h.2 m 34 = some (m + 23) ∧ h.2 m 35 = some (m + 24) ∧ h.2 m 37 = some (m + 25) ∧ h.2 m 38 = some (m + 26) ∧ h.2 m 39 = some (m + 27) ∧ h.2 m 40 = some (m + 28) ∧ h.2 m 42 = some (m + 29) ∧ h.2 m 45 = some (m + 30) ∧ h.2 m 46 = some (m + 31) ∧ h.2 m 47 = some (m + 32)
theorem LR.s0 {m : Nat} {g : ZS} (h : LR m (zh g)) : zsh g m = some (12, 0) := h.1
theorem LR.s1 {m : Nat} {g : ZS} (h : LR m (zh g)) : zsh g (m + 1) = some (20, 217) := h.2.1
theorem LR.s2 {m : Nat} {g : ZS} (h : LR m (zh g)) : zsh g (m + 2) = some (20, 6) := h.2.2.1
theorem LR.s3 {m : Nat} {g : ZS} (h : LR m (zh g)) : zsh g (m + 3) = some (20, 8) := h.2.2.2.1
theorem LR.s4 {m : Nat} {g : ZS} (h : LR m (zh g)) : zsh g (m + 4) = some (20, 64) := h.2.2.2.2.1
theorem LR.s5 {m : Nat} {g : ZS} (h : LR m (zh g)) : zsh g (m + 5) = some (20, 4) := h.2.2.2.2.2.1
theorem LR.s6 {m : Nat} {g : ZS} (h : LR m (zh g)) : zsh g (m + 6) = some (21, 80) := h.2.2.2.2.2.2.1
theorem LR.s7 {m : Nat} {g : ZS} (h : LR m (zh g)) : zsh g (m + 7) = some (24, 16) := h.2.2.2.2.2.2.2.1
theorem LR.s8 {m : Nat} {g : ZS} (h : LR m (zh g)) : zsh g (m + 8) = some (20, 80) := h.2.2.2.2.2.2.2.2.1
theorem LR.s9 {m : Nat} {g : ZS} (h : LR m (zh g)) : zsh g (m + 9) = some (21, 40) := h.2.2.2.2.2.2.2.2.2.1
theorem LR.s10 {m : Nat} {g : ZS} (h : LR m (zh g)) : zsh g (m + 10) = some (21, 40) := h.2.2.2.2.2.2.2.2.2.2.1
theorem LR.s11 {m : Nat} {g : ZS} (h : LR m (zh g)) : zsh g (m + 11) = some (20, 7) := h.2.2.2.2.2.2.2.2.2.2.2.1
theorem LR.s12 {m : Nat} {g : ZS} (h : LR m (zh g)) : zsh g (m + 12) = some (20, 8) := h.2.2.2.2.2.2.2.2.2.2.2.2.1
theorem LR.s13 {m : Nat} {g : ZS} (h : LR m (zh g)) : zsh g (m + 13) = some (20, 8) := h.2.2.2.2.2.2.2.2.2.2.2.2.2.1
theorem LR.s14 {m : Nat} {g : ZS} (h : LR m (zh g)) : zsh g (m + 14) = some (20, 8) := h.2.2.2.2.2.2.2.2.2.2.2.2.2.2.1
theorem LR.s15 {m : Nat} {g : ZS} (h : LR m (zh g)) : zsh g (m + 15) = some (20, 2604) := h.2.2.2.2.2.2.2.2.2.2.2.2.2.2.2.1
theorem LR.s16 {m : Nat} {g : ZS} (h : LR m (zh g)) : zsh g (m + 16) = some (20, 217) := h.2.2.2.2.2.2.2.2.2.2.2.2.2.2.2.2.1
theorem LR.s17 {m : Nat} {g : ZS} (h : LR m (zh g)) : zsh g (m + 17) = some (20, 217) := h.2.2.2.2.2.2.2.2.2.2.2.2.2.2.2.2.2.1
theorem LR.s18 {m : Nat} {g : ZS} (h : LR m (zh g)) : zsh g (m + 18) = some (20, 240) := h.2.2.2.2.2.2.2.2.2.2.2.2.2.2.2.2.2.2.1
theorem LR.s19 {m : Nat} {g : ZS} (h : LR m (zh g)) : zsh g (m + 19) = some (20, 6) := h.2.2.2.2.2.2.2.2.2.2.2.2.2.2.2.2.2.2.2.1
theorem LR.s20 {m : Nat} {g : ZS} (h : LR m (zh g)) : zsh g (m + 20) = some (20, 17) := h.2.2.2.2.2.2.2.2.2.2.2.2.2.2.2.2.2.2.2.2.1
theorem LR.s21 {m : Nat} {g : ZS} (h : LR m (zh g)) : zsh g (m + 21) = some (20, 8) := h.2.2.2.2.2.2.2.2.2.2.2.2.2.2.2.2.2.2.2.2.2.1
theorem LR.s22 {m : Nat} {g : ZS} (h : LR m (zh g)) : zsh g (m + 22) = some (20, 8) := h.2.2.2.2.2.2.2.2.2.2.2.2.2.2.2.2.2.2.2.2.2.2.1
theorem LR.s23 {m : Nat} {g : ZS} (h : LR m (zh g)) : zsh g (m + 23) = some (20, 12) := h.2.2.2.2.2.2.2.2.2.2.2.2.2.2.2.2.2.2.2.2.2.2.2.1
theorem LR.s24 {m : Nat} {g : ZS} (h : LR m (zh g)) : zsh g (m + 24) = some (20, 12) := h.2.2.2.2.2.2.2.2.2.2.2.2.2.2.2.2.2.2.2.2.2.2.2.2.1
theorem LR.s25 {m : Nat} {g : ZS} (h : LR m (zh g)) : zsh g (m + 25) = some (20, 8) := h.2.2.2.2.2.2.2.2.2.2.2.2.2.2.2.2.2.2.2.2.2.2.2.2.2.1
theorem LR.s26 {m : Nat} {g : ZS} (h : LR m (zh g)) : zsh g (m + 26) = some (20, 81) := h.2.2.2.2.2.2.2.2.2.2.2.2.2.2.2.2.2.2.2.2.2.2.2.2.2.2.1
theorem LR.s27 {m : Nat} {g : ZS} (h : LR m (zh g)) : zsh g (m + 27) = some (20, 12) := h.2.2.2.2.2.2.2.2.2.2.2.2.2.2.2.2.2.2.2.2.2.2.2.2.2.2.2.1
theorem LR.s28 {m : Nat} {g : ZS} (h : LR m (zh g)) : zsh g (m + 28) = some (20, 12) := h.2.2.2.2.2.2.2.2.2.2.2.2.2.2.2.2.2.2.2.2.2.2.2.2.2.2.2.2.1
theorem LR.s29 {m : Nat} {g : ZS} (h : LR m (zh g)) : zsh g (m + 29) = some (20, 6) := h.2.2.2.2.2.2.2.2.2.2.2.2.2.2.2.2.2.2.2.2.2.2.2.2.2.2.2.2.2.1
theorem LR.s30 {m : Nat} {g : ZS} (h : LR m (zh g)) : zsh g (m + 30) = some (20, 434) := h.2.2.2.2.2.2.2.2.2.2.2.2.2.2.2.2.2.2.2.2.2.2.2.2.2.2.2.2.2.2.1
theorem LR.s31 {m : Nat} {g : ZS} (h : LR m (zh g)) : zsh g (m + 31) = some (22, 2) := h.2.2.2.2.2.2.2.2.2.2.2.2.2.2.2.2.2.2.2.2.2.2.2.2.2.2.2.2.2.2.2.1
theorem LR.s32 {m : Nat} {g : ZS} (h : LR m (zh g)) : zsh g (m + 32) = some (20, 2) := h.2.2.2.2.2.2.2.2.2.2.2.2.2.2.2.2.2.2.2.2.2.2.2.2.2.2.2.2.2.2.2.2.1
theorem LR.r0 {m : Nat} {g : ZS} (h : LR m (zh g)) : zgr g m 0 = some (m + 1) := h.2.2.2.2.2.2.2.2.2.2.2.2.2.2.2.2.2.2.2.2.2.2.2.2.2.2.2.2.2.2.2.2.2.1
theorem LR.r2 {m : Nat} {g : ZS} (h : LR m (zh g)) : zgr g m 2 = some (m + 2) := h.2.2.2.2.2.2.2.2.2.2.2.2.2.2.2.2.2.2.2.2.2.2.2.2.2.2.2.2.2.2.2.2.2.2.1
theorem LR.r3 {m : Nat} {g : ZS} (h : LR m (zh g)) : zgr g m 3 = some (m + 3) := h.2.2.2.2.2.2.2.2.2.2.2.2.2.2.2.2.2.2.2.2.2.2.2.2.2.2.2.2.2.2.2.2.2.2.2.1
theorem LR.r4 {m : Nat} {g : ZS} (h : LR m (zh g)) : zgr g m 4 = some (m + 4) := h.2.2.2.2.2.2.2.2.2.2.2.2.2.2.2.2.2.2.2.2.2.2.2.2.2.2.2.2.2.2.2.2.2.2.2.2.1
theorem LR.r5 {m : Nat} {g : ZS} (h : LR m (zh g)) : zgr g m 5 = some (m + 5) := h.2.2.2.2.2.2.2.2.2.2.2.2.2.2.2.2.2.2.2.2.2.2.2.2.2.2.2.2.2.2.2.2.2.2.2.2.2.1
theorem LR.r6 {m : Nat} {g : ZS} (h : LR m (zh g)) : zgr g m 6 = some (m + 6) := h.2.2.2.2.2.2.2.2.2.2.2.2.2.2.2.2.2.2.2.2.2.2.2.2.2.2.2.2.2.2.2.2.2.2.2.2.2.2.1
theorem LR.r8 {m : Nat} {g : ZS} (h : LR m (zh g)) : zgr g m 8 = some (m + 7) := h.2.2.2.2.2.2.2.2.2.2.2.2.2.2.2.2.2.2.2.2.2.2.2.2.2.2.2.2.2.2.2.2.2.2.2.2.2.2.2.1
theorem LR.r16 {m : Nat} {g : ZS} (h : LR m (zh g)) : zgr g m 16 = some (m + 8) := h.2.2.2.2.2.2.2.2.2.2.2.2.2.2.2.2.2.2.2.2.2.2.2.2.2.2.2.2.2.2.2.2.2.2.2.2.2.2.2.2.1
theorem LR.r21 {m : Nat} {g : ZS} (h : LR m (zh g)) : zgr g m 21 = some (m + 11) := h.2.2.2.2.2.2.2.2.2.2.2.2.2.2.2.2.2.2.2.2.2.2.2.2.2.2.2.2.2.2.2.2.2.2.2.2.2.2.2.2.2.1
theorem LR.r22 {m : Nat} {g : ZS} (h : LR m (zh g)) : zgr g m 22 = some (m + 12) := h.2.2.2.2.2.2.2.2.2.2.2.2.2.2.2.2.2.2.2.2.2.2.2.2.2.2.2.2.2.2.2.2.2.2.2.2.2.2.2.2.2.2.1
theorem LR.r23 {m : Nat} {g : ZS} (h : LR m (zh g)) : zgr g m 23 = some (m + 13) := h.2.2.2.2.2.2.2.2.2.2.2.2.2.2.2.2.2.2.2.2.2.2.2.2.2.2.2.2.2.2.2.2.2.2.2.2.2.2.2.2.2.2.2.1
theorem LR.r24 {m : Nat} {g : ZS} (h : LR m (zh g)) : zgr g m 24 = some (m + 14) := h.2.2.2.2.2.2.2.2.2.2.2.2.2.2.2.2.2.2.2.2.2.2.2.2.2.2.2.2.2.2.2.2.2.2.2.2.2.2.2.2.2.2.2.2.1
theorem LR.r25 {m : Nat} {g : ZS} (h : LR m (zh g)) : zgr g m 25 = some (m + 15) := h.2.2.2.2.2.2.2.2.2.2.2.2.2.2.2.2.2.2.2.2.2.2.2.2.2.2.2.2.2.2.2.2.2.2.2.2.2.2.2.2.2.2.2.2.2.1
theorem LR.r27 {m : Nat} {g : ZS} (h : LR m (zh g)) : zgr g m 27 = some (m + 16) := h.2.2.2.2.2.2.2.2.2.2.2.2.2.2.2.2.2.2.2.2.2.2.2.2.2.2.2.2.2.2.2.2.2.2.2.2.2.2.2.2.2.2.2.2.2.2.1
theorem LR.r28 {m : Nat} {g : ZS} (h : LR m (zh g)) : zgr g m 28 = some (m + 17) := h.2.2.2.2.2.2.2.2.2.2.2.2.2.2.2.2.2.2.2.2.2.2.2.2.2.2.2.2.2.2.2.2.2.2.2.2.2.2.2.2.2.2.2.2.2.2.2.1
theorem LR.r29 {m : Nat} {g : ZS} (h : LR m (zh g)) : zgr g m 29 = some (m + 18) := h.2.2.2.2.2.2.2.2.2.2.2.2.2.2.2.2.2.2.2.2.2.2.2.2.2.2.2.2.2.2.2.2.2.2.2.2.2.2.2.2.2.2.2.2.2.2.2.2.1
theorem LR.r30 {m : Nat} {g : ZS} (h : LR m (zh g)) : zgr g m 30 = some (m + 19) := h.2.2.2.2.2.2.2.2.2.2.2.2.2.2.2.2.2.2.2.2.2.2.2.2.2.2.2.2.2.2.2.2.2.2.2.2.2.2.2.2.2.2.2.2.2.2.2.2.2.1
theorem LR.r31 {m : Nat} {g : ZS} (h : LR m (zh g)) : zgr g m 31 = some (m + 20) := h.2.2.2.2.2.2.2.2.2.2.2.2.2.2.2.2.2.2.2.2.2.2.2.2.2.2.2.2.2.2.2.2.2.2.2.2.2.2.2.2.2.2.2.2.2.2.2.2.2.2.1
theorem LR.r32 {m : Nat} {g : ZS} (h : LR m (zh g)) : zgr g m 32 = some (m + 21) := h.2.2.2.2.2.2.2.2.2.2.2.2.2.2.2.2.2.2.2.2.2.2.2.2.2.2.2.2.2.2.2.2.2.2.2.2.2.2.2.2.2.2.2.2.2.2.2.2.2.2.2.1
theorem LR.r33 {m : Nat} {g : ZS} (h : LR m (zh g)) : zgr g m 33 = some (m + 22) := h.2.2.2.2.2.2.2.2.2.2.2.2.2.2.2.2.2.2.2.2.2.2.2.2.2.2.2.2.2.2.2.2.2.2.2.2.2.2.2.2.2.2.2.2.2.2.2.2.2.2.2.2.1
theorem LR.r34 {m : Nat} {g : ZS} (h : LR m (zh g)) : zgr g m 34 = some (m + 23) := h.2.2.2.2.2.2.2.2.2.2.2.2.2.2.2.2.2.2.2.2.2.2.2.2.2.2.2.2.2.2.2.2.2.2.2.2.2.2.2.2.2.2.2.2.2.2.2.2.2.2.2.2.2.1
theorem LR.r35 {m : Nat} {g : ZS} (h : LR m (zh g)) : zgr g m 35 = some (m + 24) := h.2.2.2.2.2.2.2.2.2.2.2.2.2.2.2.2.2.2.2.2.2.2.2.2.2.2.2.2.2.2.2.2.2.2.2.2.2.2.2.2.2.2.2.2.2.2.2.2.2.2.2.2.2.2.1
theorem LR.r37 {m : Nat} {g : ZS} (h : LR m (zh g)) : zgr g m 37 = some (m + 25) := h.2.2.2.2.2.2.2.2.2.2.2.2.2.2.2.2.2.2.2.2.2.2.2.2.2.2.2.2.2.2.2.2.2.2.2.2.2.2.2.2.2.2.2.2.2.2.2.2.2.2.2.2.2.2.2.1
theorem LR.r38 {m : Nat} {g : ZS} (h : LR m (zh g)) : zgr g m 38 = some (m + 26) := h.2.2.2.2.2.2.2.2.2.2.2.2.2.2.2.2.2.2.2.2.2.2.2.2.2.2.2.2.2.2.2.2.2.2.2.2.2.2.2.2.2.2.2.2.2.2.2.2.2.2.2.2.2.2.2.2.1
theorem LR.r39 {m : Nat} {g : ZS} (h : LR m (zh g)) : zgr g m 39 = some (m + 27) := h.2.2.2.2.2.2.2.2.2.2.2.2.2.2.2.2.2.2.2.2.2.2.2.2.2.2.2.2.2.2.2.2.2.2.2.2.2.2.2.2.2.2.2.2.2.2.2.2.2.2.2.2.2.2.2.2.2.1
theorem LR.r40 {m : Nat} {g : ZS} (h : LR m (zh g)) : zgr g m 40 = some (m + 28) := h.2.2.2.2.2.2.2.2.2.2.2.2.2.2.2.2.2.2.2.2.2.2.2.2.2.2.2.2.2.2.2.2.2.2.2.2.2.2.2.2.2.2.2.2.2.2.2.2.2.2.2.2.2.2.2.2.2.2.1
theorem LR.r42 {m : Nat} {g : ZS} (h : LR m (zh g)) : zgr g m 42 = some (m + 29) := h.2.2.2.2.2.2.2.2.2.2.2.2.2.2.2.2.2.2.2.2.2.2.2.2.2.2.2.2.2.2.2.2.2.2.2.2.2.2.2.2.2.2.2.2.2.2.2.2.2.2.2.2.2.2.2.2.2.2.2.1
theorem LR.r45 {m : Nat} {g : ZS} (h : LR m (zh g)) : zgr g m 45 = some (m + 30) := h.2.2.2.2.2.2.2.2.2.2.2.2.2.2.2.2.2.2.2.2.2.2.2.2.2.2.2.2.2.2.2.2.2.2.2.2.2.2.2.2.2.2.2.2.2.2.2.2.2.2.2.2.2.2.2.2.2.2.2.2.1
theorem LR.r46 {m : Nat} {g : ZS} (h : LR m (zh g)) : zgr g m 46 = some (m + 31) := h.2.2.2.2.2.2.2.2.2.2.2.2.2.2.2.2.2.2.2.2.2.2.2.2.2.2.2.2.2.2.2.2.2.2.2.2.2.2.2.2.2.2.2.2.2.2.2.2.2.2.2.2.2.2.2.2.2.2.2.2.2.1
theorem LR.r47 {m : Nat} {g : ZS} (h : LR m (zh g)) : zgr g m 47 = some (m + 32) := h.2.2.2.2.2.2.2.2.2.2.2.2.2.2.2.2.2.2.2.2.2.2.2.2.2.2.2.2.2.2.2.2.2.2.2.2.2.2.2.2.2.2.2.2.2.2.2.2.2.2.2.2.2.2.2.2.2.2.2.2.2.2
