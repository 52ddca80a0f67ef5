/-! ===== what both hold ===== -/
abbrev ZA : Type := (Nat × (Nat → Nat) × (Nat → ZB) × Nat) × ((Nat → Nat) × (Nat → List Nat)) × (List Nat × List Int64) × (List Nat × List Nat) × List ZU × (Nat × (Nat → Option (ZU × Nat × Nat))) × List (Nat × Nat) × List (Nat × Nat)
abbrev an (A : ZA) : Nat := A.1.1
abbrev ame (A : ZA) : Nat → Nat := A.1.2.1
abbrev aB (A : ZA) : Nat → ZB := A.1.2.2.1
abbrev ad (A : ZA) : Nat := A.1.2.2.2
abbrev aW (A : ZA) : Nat → Nat := A.2.1.1
abbrev aH (A : ZA) : Nat → List Nat := A.2.1.2
abbrev aT (A : ZA) : List Nat := A.2.2.1.1
abbrev aR (A : ZA) : List Int64 := A.2.2.1.2
abbrev aL (A : ZA) : List Nat := A.2.2.2.1.1
abbrev aK (A : ZA) : List Nat := A.2.2.2.1.2
abbrev aU (A : ZA) : List ZU := A.2.2.2.2.1
abbrev aC (A : ZA) : Nat := A.2.2.2.2.2.1.1
abbrev aE (A : ZA) : Nat → Option (ZU × Nat × Nat) := A.2.2.2.2.2.1.2
abbrev aP (A : ZA) : List (Nat × Nat) := A.2.2.2.2.2.2.1
abbrev aN (A : ZA) : List (Nat × Nat) := A.2.2.2.2.2.2.2
abbrev sR (A : ZA) (l : List Int64) : ZA := (A.1, A.2.1, (A.2.2.1.1, l), A.2.2.2)
abbrev sT (A : ZA) (l : List Nat) : ZA := (A.1, A.2.1, (l, A.2.2.1.2), A.2.2.2)
abbrev sS (A : ZA) (B : Nat → ZB) (d : Nat) : ZA := ((A.1.1, A.1.2.1, B, d), A.2)
abbrev sU (A : ZA) (U : List ZU) : ZA := (A.1, A.2.1, A.2.2.1, A.2.2.2.1, U, A.2.2.2.2.2)
abbrev sW (A : ZA) (W : Nat → Nat) : ZA := (A.1, (W, A.2.1.2), A.2.2)
abbrev sH (A : ZA) (H : Nat → List Nat) : ZA := (A.1, (A.2.1.1, H), A.2.2)
abbrev sP (A : ZA) (P : List (Nat × Nat)) : ZA := (A.1, A.2.1, A.2.2.1, A.2.2.2.1, A.2.2.2.2.1, A.2.2.2.2.2.1, P, A.2.2.2.2.2.2.2)
abbrev sN (A : ZA) (P : List (Nat × Nat)) : ZA := (A.1, A.2.1, A.2.2.1, A.2.2.2.1, A.2.2.2.2.1, A.2.2.2.2.2.1, A.2.2.2.2.2.2.1, P)
abbrev sE (A : ZA) (E : Nat → Option (ZU × Nat × Nat)) : ZA := (A.1, A.2.1, A.2.2.1, A.2.2.2.1, A.2.2.2.2.1, (A.2.2.2.2.2.1.1, E), A.2.2.2.2.2.2)
abbrev sL (A : ZA) (l k : List Nat) : ZA := (A.1, A.2.1, A.2.2.1, (l, k), A.2.2.2.2)
def b0 : ZB := (0, 0, 0, 0, fun _ => 0, fun _ => 0, fun _ => 0, fun _ => 0)
def e0 : Nat × Nat := (0, 0)
/-- what holds of it after c calls -/
def AI (A : ZA) (c : Nat) : Prop := (an A ≤ 6 ∧ (∀ p, p < an A → 1 ≤ ame A p ∧ ame A p ≤ 8) ∧ SI (an A) (aB A) ∧ ad A ≤ 300 * c) ∧ ((∀ w, w < 8 → aW A w ≤ 9) ∧ HI (aH A)) ∧ (aT A).length ≤ 80 ∧ (∀ p, (aT A).getD p 0 < 256) ∧ (aR A).length ≤ 8 ∧ Rul (aL A) (aK A) ∧ ((aU A).length ≤ 12 ∧ ∀ i, i < (aU A).length → SI (an A) ((aU A).getD i u0).1 ∧ ((aU A).getD i u0).2 ≤ 300 * c) ∧ (aC A ≤ an A ∧ ∀ i, i < 2 → ∀ u k q, aE A i = some (u, k, q) → q ≤ aC A ∧ k ≤ an A ∧ (q = aC A ↔ k = an A) ∧ SI k u.1 ∧ u.2 ≤ 300 * c) ∧ ((aP A).length ≤ 12 ∧ ∀ i, i < (aP A).length → ((aP A).getD i e0).1 < 8 ∧ ((aP A).getD i e0).2 < 8 ∧ ((aP A).getD i e0).1 ≠ ((aP A).getD i e0).2) ∧ (aN A).length ≤ 12 ∧ ∀ i, i < (aN A).length → ((aN A).getD i e0).1 < 5 ∧ ((aN A).getD i e0).2 ≤ 8
/-! the class -/
def CP (g : ZS) (x n : Nat) (me : Nat → Nat) (U : List ZU) : Prop := zgi g (x + 87) 1 = nI U.length ∧ ∃ σ : Nat → Nat, (∀ i, i < 12 → σ i < 12 ∧ zgr g (x + 88) i = some (x + 89 + 32 * σ i)) ∧ (∀ i j, i < 12 → j < 12 → σ i = σ j → i = j) ∧ ∀ i, i < U.length → CS g (x + 89 + 32 * σ i) n (U.getD i u0).2 me (U.getD i u0).1
def CE (g : ZS) (x : Nat) (me : Nat → Nat) (E : Nat → Option (ZU × Nat × Nat)) : Prop := ∀ i, i < 2 → zgi g (x + 474) i = bI (E i).isSome ∧ ∀ u k q, E i = some (u, k, q) → CS g (x + 517 + 32 * i) k u.2 me u.1
def CL (g : ZS) (s a b : Nat) (j : Nat) (P : List (Nat × Nat)) : Prop := zgi g s j = nI P.length ∧ ∀ i, i < P.length → zgi g a i = nI (P.getD i e0).1 ∧ zgi g b i = nI (P.getD i e0).2
def CR (g : ZS) (x : Nat) (code : List Nat) : Prop := ∃ r r', (r = x + 13 ∧ r' = x + 18 ∨ r = x + 18 ∧ r' = x + 13) ∧ zgr g x 4 = some r ∧ zgr g x 5 = some r' ∧ CQ g r code
def CJ (x : Nat) (g : ZS) (A : ZA) : Prop := LC x (zh g) ∧ XT g (x + 1) (x + 2) (aT A) ∧ XH g (x + 5) (aH A) ∧ (∀ w, w < 8 → zgi g (x + 12) w = nI (aW A w)) ∧ CR g x (aK A) ∧ (CS g (x + 23) (an A) (ad A) (ame A) (aB A) ∧ ∀ p, an A ≤ p → p < 6 → CB g (x + 23 + 2 + 5 * p) b0) ∧ CP g x (an A) (ame A) (aU A) ∧ CE g x (ame A) (aE A) ∧ CL g (x + 506) (x + 507) (x + 508) 5 (aP A) ∧ CL g (x + 512) (x + 513) (x + 514) 2 (aN A)
def CI (x : Nat) (g : ZS) (A : ZA) : Prop := CJ x g A ∧ XR g (x + 3) (x + 4) (aR A)
abbrev Scr (x : Nat) : Nat → Nat → Prop := fun a j => (a = x + 3 ∧ j = 1) ∨ a = x + 4 ∨ (x + 55 ≤ a ∧ a < x + 87) ∨ (x + 475 ≤ a ∧ a < x + 506) ∨ a = x + 15 ∨ a = x + 20 ∨ (x + 509 ≤ a ∧ a < x + 512) ∨ a = x + 515 ∨ a = x + 516
theorem CL.keep {S : Nat → Nat → Prop} {g g' : ZS} {s a b j : Nat} {P : List (Nat × Nat)} (h : CL g s a b j P) (hJ : zJ S g g') (h1 : ¬ S s j) (h2 : ∀ i, ¬ S a i ∧ ¬ S b i) : CL g' s a b j P := ⟨by rw [hJ.gi h1]; exact h.1, fun i hi => ⟨by rw [hJ.gi (h2 i).1]; exact (h.2 i hi).1, by rw [hJ.gi (h2 i).2]; exact (h.2 i hi).2⟩⟩
theorem CQ.keep {S : Nat → Nat → Prop} {g g' : ZS} {r : Nat} {code : List Nat} (h : CQ g r code) (hJ : zJ S g g') (h1 : ¬ S r 4) (h2 : ∀ j, ¬ S (r + 1) j) : CQ g' r code := ⟨by rw [hJ.gi h1]; exact h.1, fun j hj => by rw [hJ.gi (h2 j)]; exact h.2 j hj⟩
theorem XT.keep {S : Nat → Nat → Prop} {g g' : ZS} {t u : Nat} {l : List Nat} (h : XT g t u l) (hJ : zJ S g g') (h1 : ¬ S t 1) (h2 : ∀ j, ¬ S u j) : XT g' t u l := by
  obtain ⟨t1, t2, t3, t4, t5, t6⟩ := h
  exact ⟨by rw [hJ.sh]; exact t1, by rw [hJ.sh]; exact t2, by rw [hJ.gr]; exact t3, by rw [hJ.gi h1]; exact t4, t5, fun j hj => by rw [hJ.gi (h2 j)]; exact t6 j hj⟩
theorem XR.keep {S : Nat → Nat → Prop} {g g' : ZS} {t u : Nat} {l : List Int64} (h : XR g t u l) (hJ : zJ S g g') (h1 : ¬ S t 1) (h2 : ∀ j, ¬ S u j) : XR g' t u l := ⟨by rw [hJ.gi h1]; exact h.1, h.2.1, fun j hj => by rw [hJ.gl (h2 j)]; exact h.2.2 j hj⟩
/-- the class's state stays where nothing but places of S is written -/
theorem CJ.keep {S : Nat → Nat → Prop} {x c : Nat} {g g' : ZS} {A : ZA} (h : CJ x g A) (hA : AI A c) (hJ : zJ S g g') (hS : ∀ a j, S a j → Scr x a j) : CJ x g' A := by
  obtain ⟨h1, h2, h3, h4, ⟨r, r', h5, h6, h7, h8⟩, ⟨h9, h10⟩, ⟨h11, σ, h12, h13, h14⟩, h15, h16, h17⟩ := h
  obtain ⟨⟨n6, -⟩, -, -, -, -, -, ⟨u12, -⟩, ⟨-, hE⟩, -⟩ := hA
  have hJ := hJ.mono hS
  refine ⟨by rw [hJ.1]; exact h1, h2.keep hJ (by omega) (fun j => by omega), h3.keep hJ (fun a j _ _ => by omega), fun w hw => by rw [hJ.gi (by omega)]; exact h4 w hw, ⟨r, r', h5, by rw [hJ.gr]; exact h6, by rw [hJ.gr]; exact h7, h8.keep hJ (by omega) (fun j => by omega)⟩, ⟨h9.keep n6 hJ (fun a j z => by have := z.1; have := z.2; omega), fun p h1 h2 => (h10 p h1 h2).keepJ hJ (fun a j z => by have := z.1; have := z.2.1; omega)⟩, ⟨by rw [hJ.gi (by omega)]; exact h11, σ, fun i hi => ⟨(h12 i hi).1, by rw [hJ.gr]; exact (h12 i hi).2⟩, h13, fun i hi => ?_⟩, fun i hi => ⟨by rw [hJ.gi (by omega)]; exact (h15 i hi).1, fun u k q e => ?_⟩, h16.keep hJ (by omega) (fun i => by omega), h17.keep hJ (by omega) (fun i => by omega)⟩
  · have := (h12 i (by omega)).1
    exact (h14 i hi).keep n6 hJ (fun a j z => by have := z.1; have := z.2; omega)
  · have := (hE i hi u k q e).2.1
    exact ((h15 i hi).2 u k q e).keep (by omega) hJ (fun a j z => by have := z.1; have := z.2; omega)
/-! the reference -/
def RE (g : ZS) (m : Nat) (C : Nat) (E : Nat → Option (ZU × Nat × Nat)) : Prop := zgi g m 44 = nI C ∧ ∀ i, i < 2 → zgi g (m + 31) i = bI (E i).isSome ∧ ∀ u k q, E i = some (u, k, q) → zgi g (m + 32) i = nI q ∧ RS g (m + 30) (217 * i) k u.2 u.1
def RJ (m : Nat) (g : ZS) (A : ZA) : Prop := LR m (zh g) ∧ zgr g m 18 = some (m + 10) ∧ RQ g m (m + 9) (aL A) ∧ RT g m (aT A) ∧ RH g m (aH A) ∧ (∀ w, w < 8 → zgi g (m + 3) w = nI (aW A w)) ∧ (zgi g m 1 = nI (an A) ∧ (∀ p, p < an A → zgi g (m + 2) p = nI (ame A p)) ∧ RN g (m + 1) (an A) (ad A) (aB A)) ∧ RU g m (an A) (aU A) ∧ RE g m (aC A) (aE A) ∧ CL g m (m + 23) (m + 24) 36 (aP A) ∧ CL g m (m + 27) (m + 28) 41 (aN A)
def RI (m : Nat) (g : ZS) (A : ZA) : Prop := RJ m g A ∧ RW g m (aR A)
abbrev ScM (m : Nat) : Nat → Nat → Prop := fun x j => (x = m ∧ (9 ≤ j ∧ j ≤ 15 ∨ j = 20 ∨ j = 43)) ∨ x = m + 7 ∨ x = m + 8 ∨ (m + 11 ≤ x ∧ x ≤ m + 14) ∨ (m + 16 ≤ x ∧ x ≤ m + 22) ∨ x = m + 25 ∨ x = m + 26 ∨ x = m + 29
theorem RB.keepM {S : Nat → Nat → Prop} {g g' : ZS} {m a o : Nat} {b : ZB} (h : RB g a o b) (hJ : zM m S g g') (hS : ∀ j, o ≤ j → j < o + 36 → ¬ S a j) : RB g' a o b := h.keep (S := S) (fun j h1 h2 => hJ.gi (hS j h1 h2))
theorem RN.keepM {S : Nat → Nat → Prop} {g g' : ZS} {m a n d : Nat} {B : Nat → ZB} (h : RN g a n d B) (hn : n ≤ 6) (hJ : zM m S g g') (hS : ∀ j, j < 217 → ¬ S a j) : RN g' a n d B := ⟨by rw [hJ.gi (hS _ (by omega))]; exact h.1, fun p hp => (h.2 p hp).keepM hJ (fun j x y => hS j (by omega))⟩
theorem RS.keepM {S : Nat → Nat → Prop} {g g' : ZS} {m a k n d : Nat} {B : Nat → ZB} (h : RS g a k n d B) (hn : n ≤ 6) (hJ : zM m S g g') (hS : ∀ j, ¬ S a j) : RS g' a k n d B := h.at hn (fun j _ => hJ.gi (hS _))
theorem RH.keepM {S : Nat → Nat → Prop} {g g' : ZS} {m : Nat} {H : Nat → List Nat} (h : RH g m H) (hJ : zM m S g g') (hS : ∀ j, ¬ S (m + 4) j ∧ ¬ S (m + 5) j) : RH g' m H := fun k hk => ⟨by rw [hJ.gi (hS _).2]; exact (h k hk).1, fun i hi => by rw [hJ.gi (hS _).1]; exact (h k hk).2 i hi⟩
theorem RQ.keepM {S : Nat → Nat → Prop} {g g' : ZS} {m ra : Nat} {l : List Nat} (h : RQ g m ra l) (hJ : zM m S g g') (h1 : ¬ S m 19) (h2 : ∀ j, ¬ S ra j) : RQ g' m ra l := ⟨by rw [hJ.gr (by omega)]; exact h.1, by rw [hJ.sh]; exact h.2.1, by rw [hJ.gi h1]; exact h.2.2.1, fun j hj => by rw [hJ.gi (h2 j)]; exact h.2.2.2 j hj⟩
theorem RT.keepM {S : Nat → Nat → Prop} {g g' : ZS} {m : Nat} {l : List Nat} (h : RT g m l) (hJ : zM m S g g') (h1 : ¬ S m 7) (h2 : ∀ j, ¬ S (m + 6) j) : RT g' m l := ⟨by rw [hJ.gi h1]; exact h.1, h.2.1, fun j hj => by rw [hJ.gi (h2 j)]; exact h.2.2 j hj⟩
theorem RW.keepM {S : Nat → Nat → Prop} {g g' : ZS} {m : Nat} {l : List Int64} (h : RW g m l) (hJ : zM m S g g') (h1 : ¬ S m 9) (h2 : ∀ j, ¬ S (m + 7) j) : RW g' m l := ⟨by rw [hJ.gi h1]; exact h.1, h.2.1, fun j hj => by rw [hJ.gl (h2 j)]; exact h.2.2 j hj⟩
theorem CL.keepM {S : Nat → Nat → Prop} {g g' : ZS} {m s a b j : Nat} {P : List (Nat × Nat)} (h : CL g s a b j P) (hJ : zM m S g g') (h1 : ¬ S s j) (h2 : ∀ i, ¬ S a i ∧ ¬ S b i) : CL g' s a b j P := ⟨by rw [hJ.gi h1]; exact h.1, fun i hi => ⟨by rw [hJ.gi (h2 i).1]; exact (h.2 i hi).1, by rw [hJ.gi (h2 i).2]; exact (h.2 i hi).2⟩⟩
theorem RU.keepM {S : Nat → Nat → Prop} {g g' : ZS} {m n : Nat} {U : List ZU} (h : RU g m n U) (hn : n ≤ 6) (hJ : zM m S g g') (h1 : ¬ S m 26) (h2 : ∀ j, ¬ S (m + 15) j) : RU g' m n U := ⟨by rw [hJ.gi h1]; exact h.1, h.2.1, fun i hi => (h.2.2 i hi).keepM hn hJ h2⟩
theorem RJ.keep {S : Nat → Nat → Prop} {m c : Nat} {g g' : ZS} {A : ZA} (h : RJ m g A) (hA : AI A c) (hJ : zM m S g g') (hS : ∀ a j, S a j → ScM m a j) : RJ m g' A := by
  obtain ⟨h1, h18, h2, h3, h4, h5, ⟨h6, h7, h8⟩, h9, ⟨h10, h11⟩, h12, h13⟩ := h
  obtain ⟨⟨n6, -⟩, -, -, -, -, -, ⟨u12, -⟩, ⟨-, hE⟩, -⟩ := hA
  have hJ := hJ.mono hS
  refine ⟨h1.M hJ, by rw [hJ.gr (by omega)]; exact h18, h2.keepM hJ (by omega) (fun j => by omega), h3.keepM hJ (by omega) (fun j => by omega), h4.keepM hJ (fun j => ⟨by omega, by omega⟩), fun w hw => by rw [hJ.gi (by omega)]; exact h5 w hw, ⟨by rw [hJ.gi (by omega)]; exact h6, fun p hp => by rw [hJ.gi (by omega)]; exact h7 p hp, h8.keepM n6 hJ (fun j _ => by omega)⟩, h9.keepM n6 hJ (by omega) (fun j => by omega), ⟨by rw [hJ.gi (by omega)]; exact h10, fun i hi => ⟨by rw [hJ.gi (by omega)]; exact (h11 i hi).1, fun u k q e => ⟨by rw [hJ.gi (by omega)]; exact ((h11 i hi).2 u k q e).1, ((h11 i hi).2 u k q e).2.keepM (by have := (hE i hi u k q e).2.1; omega) hJ (fun j => by omega)⟩⟩⟩, h12.keepM hJ (by omega) (fun i => ⟨by omega, by omega⟩), h13.keepM hJ (by omega) (fun i => ⟨by omega, by omega⟩)⟩
/-! what a bird says, on both sides -/
def sayA (A : ZA) (b : ZB) (me : Nat) : List Nat := says (fdC (aK A) b (aW A)) (bO b) me
theorem Rul.ok {l code : List Nat} (h : Rul l code) (ak : Nat → Int32) : code = [] ∨ ∃ x, evIs ak code x := by
  obtain ⟨h1, h2, h3, h4⟩ := h
  rcases h4 with ⟨-, h4⟩ | ⟨-, h4⟩
  · exact Or.inl h4
  · exact Or.inr (h4.ev h1 h2 ak)
abbrev SFc (x T : Nat) : Nat → Nat → Prop := fun a j => (a = T ∧ j = 3 ∨ a = T + 1 ∨ a = T + 2) ∨ a = x + 15 ∨ a = x + 20
theorem c_rule {x c : Nat} {g : ZS} {A : ZA} (h : CJ x g A) : ∃ r, zgr g x 4 = some r ∧ zsh g r = some (5, 0) ∧ QL (zh g) r ∧ (r = x + 13 ∨ r = x + 18) ∧ CQ g r (aK A) := by
  obtain ⟨h1, -, -, -, ⟨r, r', h5, h6, h7, h8⟩, -⟩ := h
  rcases h5 with ⟨rfl, rfl⟩ | ⟨rfl, rfl⟩
  · exact ⟨_, h6, h1.QL13.f.1, h1.QL13, Or.inl rfl, h8⟩
  · exact ⟨_, h6, h1.QL18.f.1, h1.QL18, Or.inr rfl, h8⟩
theorem c_follow {N : Nat} (hN : 10000 ≤ N) {x c T q r me : Nat} {g : ZS} {A : ZA} {b : ZB} (h : CJ x g A) (hA : AI A c) (hr : zgr g x 4 = some r) (hT : T = x + 480 ∨ T = x + 493) (hB : BL (zh g) q) (hb : CB g q b) (hI : BI b) (hm : zgi g q 5 = nI me) (hm8 : me ≤ 8) (hq : x + 23 ≤ q ∧ q + 5 ≤ x + 480) : zW (f_X10_follow N T q r (x + 12) g) (fun g' => zJ (SFc x T) g g' ∧ TS g' T (sayA A b me)) := by
  obtain ⟨r2, e1, e2, e3, e4, e5⟩ := c_rule (c := c) h
  rw [hr] at e1
  cases e1
  have hRul := hA.2.2.2.2.2.1
  have hTL : TL (zh g) T := by
    rcases hT with rfl | rfl
    · exact h.1.TL480
    · exact h.1.TL493
  have hs12 : zsh g (x + 12) = some (20, 8) := h.1.s12
  refine (s_follow (W := aW A) (fd := fdC (aK A) b (aW A)) hN hTL hB e2 hs12 hb hI hm hm8 h.2.2.2.1 (by omega) (by omega) (by omega) (by omega) (by omega) (fun g' w hJ hw h0 => ?_)).mono (fun g' hg' => ⟨hg'.1.mono (fun a j z => by omega), hg'.2⟩)
  have hJs := hJ.mono (S' := Scr x) (fun a j z => by omega)
  exact s_fond5 hN (by rw [hJ.1]; exact e3) (by rw [hJ.1]; exact hB) (hb.keepJ hJ (fun a j z w => by have := z.1; have := z.2.1; omega)) hw (e5.keep hJ (by omega) (fun j => by omega)) hRul.2.2.1 (hRul.ok _) (by omega)
theorem r_says {N : Nat} (hN : 10000 ≤ N) {m c a p t : Nat} {g : ZS} {A : ZA} {b : ZB} (h : RJ m g A) (hA : AI A c) (ha : a = m + 1 ∨ a = m + 17) (ht : t = m + 12 ∨ t = m + 13) (hp : p < an A) (hb : RB g a (36 * p) b) (hI : BI b) : zW (f_X12_laySays N m a (nI p) t g) (fun o => o.1 = nI (sayA A b (ame A p)).length ∧ zM m (SY m t) g o.2 ∧ ∀ j, j < (sayA A b (ame A p)).length → zgi o.2 t j = nI ((sayA A b (ame A p)).getD j 0)) := by
  have hR := h.1
  have hQ := h.2.2.1
  have hW := h.2.2.2.2.2.1
  have hm := h.2.2.2.2.2.2.1.2.1
  obtain ⟨⟨n6, me8, -⟩, -, -, -, -, hRul, -⟩ := hA
  have has : zsh g a = some (20, 217) := by
    rcases ha with rfl | rfl
    · exact hR.s1
    · exact hR.s17
  have hts : zsh g t = some (20, 8) := by
    rcases ht with rfl | rfl
    · exact hR.s12
    · exact hR.s13
  refine s_laySays (fd := fdC (aK A) b (aW A)) hN hR has hts (by omega) hb hI (hm p hp) (me8 p hp).2 (by omega) (by omega) (fun g' w hJ hw h0 => ?_)
  exact s_fond12 (W := aW A) (ra := m + 9) hN (hR.M hJ) (by rw [hJ.sh]; exact has) (by omega) hw (hb.keepM hJ (fun j _ _ => by omega)) (hQ.keepM hJ (by omega) (fun j => by omega)) hRul (by rw [hJ.gi (by omega)]; exact hW w hw) (by omega) (by omega)
/-! the frames of calls -/
def zX (lo hi : Nat) (g g' : ZS) : Prop := zsz g ≤ zsz g' ∧ ∀ a, a < zsz g → (a < lo ∨ hi ≤ a) → zsh g' a = zsh g a ∧ ∀ j, zgi g' a j = zgi g a j ∧ zgl g' a j = zgl g a j ∧ zgr g' a j = zgr g a j
theorem zJ.toX {S : Nat → Nat → Prop} {lo hi : Nat} {g g' : ZS} (h : zJ S g g') (hS : ∀ a j, S a j → lo ≤ a ∧ a < hi) : zX lo hi g g' := ⟨Nat.le_of_eq h.sz.symm, fun a _ ho => ⟨by rw [h.sh], fun j => ⟨h.gi (fun z => by have := hS a j z; omega), h.gl (fun z => by have := hS a j z; omega), by rw [h.gr]⟩⟩⟩
theorem zM.toX {S : Nat → Nat → Prop} {m lo hi : Nat} {g g' : ZS} (h : zM m S g g') (hS : ∀ a j, S a j → lo ≤ a ∧ a < hi) (hm : lo ≤ m ∧ m < hi) : zX lo hi g g' := ⟨Nat.le_of_eq h.2.1.symm, fun a _ ho => ⟨by rw [h.sh], fun j => ⟨h.gi (fun z => by have := hS a j z; omega), h.gl (fun z => by have := hS a j z; omega), h.gr (by omega)⟩⟩⟩
theorem zX.trans {lo hi : Nat} {g g' g'' : ZS} (h : zX lo hi g g') (h' : zX lo hi g' g'') : zX lo hi g g'' := ⟨Nat.le_trans h.1 h'.1, fun a ha ho => by
  obtain ⟨a1, a2⟩ := h.2 a ha ho
  obtain ⟨b1, b2⟩ := h'.2 a (Nat.lt_of_lt_of_le ha h.1) ho
  exact ⟨b1.trans a1, fun j => ⟨(b2 j).1.trans (a2 j).1, (b2 j).2.1.trans (a2 j).2.1, (b2 j).2.2.trans (a2 j).2.2⟩⟩⟩
theorem zX.rfl {lo hi : Nat} {g : ZS} : zX lo hi g g := ⟨Nat.le_refl _, fun _ _ _ => ⟨_root_.rfl, fun _ => ⟨_root_.rfl, _root_.rfl, _root_.rfl⟩⟩⟩
