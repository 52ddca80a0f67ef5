theorem a20_4 {g : ZS} {a k : Nat} (h : zsh g a = some (20, 4)) (hk : k < 4) : zald 20 g a (nI k) = some (zgi g a k) := p_ald h hk (by decide)
theorem w20_4 {g : ZS} {a k : Nat} {v : Int32} (h : zsh g a = some (20, 4)) (hk : k < 4) : zast 20 g a (nI k) v = some (zsetI g a k v) := p_ast h hk (by decide)
theorem a20_6 {g : ZS} {a k : Nat} (h : zsh g a = some (20, 6)) (hk : k < 6) : zald 20 g a (nI k) = some (zgi g a k) := p_ald h hk (by decide)
theorem w20_6 {g : ZS} {a k : Nat} {v : Int32} (h : zsh g a = some (20, 6)) (hk : k < 6) : zast 20 g a (nI k) v = some (zsetI g a k v) := p_ast h hk (by decide)
theorem a20_7 {g : ZS} {a k : Nat} (h : zsh g a = some (20, 7)) (hk : k < 7) : zald 20 g a (nI k) = some (zgi g a k) := p_ald h hk (by decide)
theorem w20_7 {g : ZS} {a k : Nat} {v : Int32} (h : zsh g a = some (20, 7)) (hk : k < 7) : zast 20 g a (nI k) v = some (zsetI g a k v) := p_ast h hk (by decide)
theorem a20_8 {g : ZS} {a k : Nat} (h : zsh g a = some (20, 8)) (hk : k < 8) : zald 20 g a (nI k) = some (zgi g a k) := p_ald h hk (by decide)
theorem w20_8 {g : ZS} {a k : Nat} {v : Int32} (h : zsh g a = some (20, 8)) (hk : k < 8) : zast 20 g a (nI k) v = some (zsetI g a k v) := p_ast h hk (by decide)
theorem a20_9 {g : ZS} {a k : Nat} (h : zsh g a = some (20, 9)) (hk : k < 9) : zald 20 g a (nI k) = some (zgi g a k) := p_ald h hk (by decide)
theorem w20_9 {g : ZS} {a k : Nat} {v : Int32} (h : zsh g a = some (20, 9)) (hk : k < 9) : zast 20 g a (nI k) v = some (zsetI g a k v) := p_ast h hk (by decide)
theorem a20_12 {g : ZS} {a k : Nat} (h : zsh g a = some (20, 12)) (hk : k < 12) : zald 20 g a (nI k) = some (zgi g a k) := p_ald h hk (by decide)
theorem w20_12 {g : ZS} {a k : Nat} {v : Int32} (h : zsh g a = some (20, 12)) (hk : k < 12) : zast 20 g a (nI k) v = some (zsetI g a k v) := p_ast h hk (by decide)
theorem a20_16 {g : ZS} {a k : Nat} (h : zsh g a = some (20, 16)) (hk : k < 16) : zald 20 g a (nI k) = some (zgi g a k) := p_ald h hk (by decide)
theorem w20_16 {g : ZS} {a k : Nat} {v : Int32} (h : zsh g a = some (20, 16)) (hk : k < 16) : zast 20 g a (nI k) v = some (zsetI g a k v) := p_ast h hk (by decide)
theorem a20_17 {g : ZS} {a k : Nat} (h : zsh g a = some (20, 17)) (hk : k < 17) : zald 20 g a (nI k) = some (zgi g a k) := p_ald h hk (by decide)
theorem w20_17 {g : ZS} {a k : Nat} {v : Int32} (h : zsh g a = some (20, 17)) (hk : k < 17) : zast 20 g a (nI k) v = some (zsetI g a k v) := p_ast h hk (by decide)
theorem a20_40 {g : ZS} {a k : Nat} (h : zsh g a = some (20, 40)) (hk : k < 40) : zald 20 g a (nI k) = some (zgi g a k) := p_ald h hk (by decide)
theorem w20_40 {g : ZS} {a k : Nat} {v : Int32} (h : zsh g a = some (20, 40)) (hk : k < 40) : zast 20 g a (nI k) v = some (zsetI g a k v) := p_ast h hk (by decide)
theorem a20_64 {g : ZS} {a k : Nat} (h : zsh g a = some (20, 64)) (hk : k < 64) : zald 20 g a (nI k) = some (zgi g a k) := p_ald h hk (by decide)
theorem w20_64 {g : ZS} {a k : Nat} {v : Int32} (h : zsh g a = some (20, 64)) (hk : k < 64) : zast 20 g a (nI k) v = some (zsetI g a k v) := p_ast h hk (by decide)
theorem a20_80 {g : ZS} {a k : Nat} (h : zsh g a = some (20, 80)) (hk : k < 80) : zald 20 g a (nI k) = some (zgi g a k) := p_ald h hk (by decide)
theorem w20_80 {g : ZS} {a k : Nat} {v : Int32} (h : zsh g a = some (20, 80)) (hk : k < 80) : zast 20 g a (nI k) v = some (zsetI g a k v) := p_ast h hk (by decide)
theorem a20_81 {g : ZS} {a k : Nat} (h : zsh g a = some (20, 81)) (hk : k < 81) : zald 20 g a (nI k) = some (zgi g a k) := p_ald h hk (by decide)
theorem w20_81 {g : ZS} {a k : Nat} {v : Int32} (h : zsh g a = some (20, 81)) (hk : k < 81) : zast 20 g a (nI k) v = some (zsetI g a k v) := p_ast h hk (by decide)
theorem a20_217 {g : ZS} {a k : Nat} (h : zsh g a = some (20, 217)) (hk : k < 217) : zald 20 g a (nI k) = some (zgi g a k) := p_ald h hk (by decide)
theorem w20_217 {g : ZS} {a k : Nat} {v : Int32} (h : zsh g a = some (20, 217)) (hk : k < 217) : zast 20 g a (nI k) v = some (zsetI g a k v) := p_ast h hk (by decide)
theorem a20_240 {g : ZS} {a k : Nat} (h : zsh g a = some (20, 240)) (hk : k < 240) : zald 20 g a (nI k) = some (zgi g a k) := p_ald h hk (by decide)
theorem w20_240 {g : ZS} {a k : Nat} {v : Int32} (h : zsh g a = some (20, 240)) (hk : k < 240) : zast 20 g a (nI k) v = some (zsetI g a k v) := p_ast h hk (by decide)
theorem a20_256 {g : ZS} {a k : Nat} (h : zsh g a = some (20, 256)) (hk : k < 256) : zald 20 g a (nI k) = some (zgi g a k) := p_ald h hk (by decide)
theorem w20_256 {g : ZS} {a k : Nat} {v : Int32} (h : zsh g a = some (20, 256)) (hk : k < 256) : zast 20 g a (nI k) v = some (zsetI g a k v) := p_ast h hk (by decide)
theorem a20_434 {g : ZS} {a k : Nat} (h : zsh g a = some (20, 434)) (hk : k < 434) : zald 20 g a (nI k) = some (zgi g a k) := p_ald h hk (by decide)
theorem w20_434 {g : ZS} {a k : Nat} {v : Int32} (h : zsh g a = some (20, 434)) (hk : k < 434) : zast 20 g a (nI k) v = some (zsetI g a k v) := p_ast h hk (by decide)
theorem a20_2604 {g : ZS} {a k : Nat} (h : zsh g a = some (20, 2604)) (hk : k < 2604) : zald 20 g a (nI k) = some (zgi g a k) := p_ald h hk (by decide)
theorem w20_2604 {g : ZS} {a k : Nat} {v : Int32} (h : zsh g a = some (20, 2604)) (hk : k < 2604) : zast 20 g a (nI k) v = some (zsetI g a k v) := p_ast h hk (by decide)
theorem a21_40 {g : ZS} {a k : Nat} (h : zsh g a = some (21, 40)) (hk : k < 40) : zald 21 g a (nI k) = some (zgi g a k) := p_ald h hk (by decide)
theorem w21_40 {g : ZS} {a k : Nat} {v : Int32} (h : zsh g a = some (21, 40)) (hk : k < 40) : zast 21 g a (nI k) v = some (zsetI g a k (vp_nar (zta 21) v)) := p_ast h hk (by decide)
theorem a21_80 {g : ZS} {a k : Nat} (h : zsh g a = some (21, 80)) (hk : k < 80) : zald 21 g a (nI k) = some (zgi g a k) := p_ald h hk (by decide)
theorem w21_80 {g : ZS} {a k : Nat} {v : Int32} (h : zsh g a = some (21, 80)) (hk : k < 80) : zast 21 g a (nI k) v = some (zsetI g a k (vp_nar (zta 21) v)) := p_ast h hk (by decide)
theorem a22_2 {g : ZS} {a k : Nat} (h : zsh g a = some (22, 2)) (hk : k < 2) : zald 22 g a (nI k) = some (zgi g a k) := p_ald h hk (by decide)
theorem w22_2 {g : ZS} {a k : Nat} {v : Int32} (h : zsh g a = some (22, 2)) (hk : k < 2) : zast 22 g a (nI k) v = some (zsetI g a k (vp_nar (zta 22) v)) := p_ast h hk (by decide)
theorem a22_5 {g : ZS} {a k : Nat} (h : zsh g a = some (22, 5)) (hk : k < 5) : zald 22 g a (nI k) = some (zgi g a k) := p_ald h hk (by decide)
theorem w22_5 {g : ZS} {a k : Nat} {v : Int32} (h : zsh g a = some (22, 5)) (hk : k < 5) : zast 22 g a (nI k) v = some (zsetI g a k (vp_nar (zta 22) v)) := p_ast h hk (by decide)
theorem a23_80 {g : ZS} {a k : Nat} (h : zsh g a = some (23, 80)) (hk : k < 80) : zald 23 g a (nI k) = some (zgi g a k) := p_ald h hk (by decide)
theorem w23_80 {g : ZS} {a k : Nat} {v : Int32} (h : zsh g a = some (23, 80)) (hk : k < 80) : zast 23 g a (nI k) v = some (zsetI g a k (vp_nar (zta 23) v)) := p_ast h hk (by decide)
theorem a25_6 {g : ZS} {a k : Nat} (h : zsh g a = some (25, 6)) (hk : k < 6) : zaald 25 g a (nI k) = zgr g a k := p_aald h hk (by decide)
theorem a26_12 {g : ZS} {a k : Nat} (h : zsh g a = some (26, 12)) (hk : k < 12) : zaald 26 g a (nI k) = zgr g a k := p_aald h hk (by decide)
theorem a26_2 {g : ZS} {a k : Nat} (h : zsh g a = some (26, 2)) (hk : k < 2) : zaald 26 g a (nI k) = zgr g a k := p_aald h hk (by decide)
theorem a27_4 {g : ZS} {a k : Nat} (h : zsh g a = some (27, 4)) (hk : k < 4) : zaald 27 g a (nI k) = zgr g a k := p_aald h hk (by decide)
theorem a27_9 {g : ZS} {a k : Nat} (h : zsh g a = some (27, 9)) (hk : k < 9) : zaald 27 g a (nI k) = zgr g a k := p_aald h hk (by decide)
theorem a24_1 {g : ZS} {a k : Nat} (h : zsh g a = some (24, 1)) (hk : k < 1) : zlald g a (nI k) = some (zgl g a k) := p_lald h hk (by decide)
theorem w24_1 {g : ZS} {a k : Nat} {v : Int64} (h : zsh g a = some (24, 1)) (hk : k < 1) : zlast g a (nI k) v = some (zsetL g a k v) := p_last h hk (by decide)
theorem a24_8 {g : ZS} {a k : Nat} (h : zsh g a = some (24, 8)) (hk : k < 8) : zlald g a (nI k) = some (zgl g a k) := p_lald h hk (by decide)
theorem w24_8 {g : ZS} {a k : Nat} {v : Int64} (h : zsh g a = some (24, 8)) (hk : k < 8) : zlast g a (nI k) v = some (zsetL g a k v) := p_last h hk (by decide)
theorem a24_16 {g : ZS} {a k : Nat} (h : zsh g a = some (24, 16)) (hk : k < 16) : zlald g a (nI k) = some (zgl g a k) := p_lald h hk (by decide)
theorem w24_16 {g : ZS} {a k : Nat} {v : Int64} (h : zsh g a = some (24, 16)) (hk : k < 16) : zlast g a (nI k) v = some (zsetL g a k v) := p_last h hk (by decide)
theorem c_0 : (0 : Int32) = nI 0 := rfl
theorem c_1 : (1 : Int32) = nI 1 := rfl
theorem c_2 : (2 : Int32) = nI 2 := rfl
theorem c_3 : (3 : Int32) = nI 3 := rfl
theorem c_4 : (4 : Int32) = nI 4 := rfl
theorem c_5 : (5 : Int32) = nI 5 := rfl
theorem c_6 : (6 : Int32) = nI 6 := rfl
theorem c_7 : (7 : Int32) = nI 7 := rfl
theorem c_8 : (8 : Int32) = nI 8 := rfl
theorem c_9 : (9 : Int32) = nI 9 := rfl
theorem c_10 : (10 : Int32) = nI 10 := rfl
theorem c_11 : (11 : Int32) = nI 11 := rfl
theorem c_12 : (12 : Int32) = nI 12 := rfl
theorem c_16 : (16 : Int32) = nI 16 := rfl
theorem c_20 : (20 : Int32) = nI 20 := rfl
theorem c_28 : (28 : Int32) = nI 28 := rfl
theorem c_36 : (36 : Int32) = nI 36 := rfl
theorem c_40 : (40 : Int32) = nI 40 := rfl
theorem c_60 : (60 : Int32) = nI 60 := rfl
theorem c_80 : (80 : Int32) = nI 80 := rfl
theorem c_99 : (99 : Int32) = nI 99 := rfl
theorem c_216 : (216 : Int32) = nI 216 := rfl
theorem c_217 : (217 : Int32) = nI 217 := rfl
theorem c_255 : (255 : Int32) = nI 255 := rfl
theorem c_9999 : (9999 : Int32) = nI 9999 := rfl
theorem c_256 : (256 : Int32) = nI 256 := rfl
theorem c_1000 : (1000 : Int32) = nI 1000 := rfl
theorem c_2000 : (2000 : Int32) = nI 2000 := rfl
/-! folds -/
def zfold {α : Type} (F : Nat → α → α) : Nat → α → α
  | 0, a => a
  | n + 1, a => F n (zfold F n a)
theorem zfold_congr {α : Type} {F G : Nat → α → α} {n : Nat} {a : α} (h : ∀ i x, i < n → F i x = G i x) : zfold F n a = zfold G n a := by
  induction n with
  | zero => rfl
  | succ n ih =>
    show F n (zfold F n a) = G n (zfold G n a)
    rw [ih (fun i x hi => h i x (by omega)), h n _ (by omega)]
theorem zfold_inv {α : Type} {F : Nat → α → α} (P : Nat → α → Prop) {n : Nat} {a : α} (h0 : P 0 a) (h : ∀ i x, i < n → P i x → P (i + 1) (F i x)) : P n (zfold F n a) := by
  induction n with
  | zero => exact h0
  | succ n ih => exact h n _ (by omega) (ih (fun i x hi => h i x (by omega)))
/-- (acc, i) -/
theorem loopA {α γ : Type} {body : α × Int32 → Option ((α × Int32) ⊕ γ)} (F : Nat → α → α) (n : Nat) (out : α → γ) (P : Nat → α → Prop) {a : α} (h0 : P 0 a) (hs : ∀ i x, i < n → P i x → body (x, nI i) = some (.inl (F i x, nI (i + 1))) ∧ P (i + 1) (F i x)) (he : ∀ x, P n x → body (x, nI n) = some (.inr (out x))) {N : Nat} (hN : n < N) : zloop body N (a, (0 : Int32)) = some (out (zfold F n a)) := by
  have key : ∀ (k i M : Nat), i + k = n → k < M → P i (zfold F i a) → zloop body M (zfold F i a, nI i) = some (out (zfold F n a)) := by
    intro k
    induction k with
    | zero =>
      intro i M hi hM hP
      obtain ⟨M', rfl⟩ : ∃ q, M = q + 1 := ⟨M - 1, by omega⟩
      have : i = n := by omega
      subst this
      simp [zloop, he _ hP]
    | succ k ih =>
      intro i M hi hM hP
      obtain ⟨M', rfl⟩ : ∃ q, M = q + 1 := ⟨M - 1, by omega⟩
      obtain ⟨h1, h2⟩ := hs i _ (by omega) hP
      simp only [zloop, h1, Option.bind_some]
      exact ih (i + 1) M' (by omega) (by omega) h2
  exact key n 0 N (by omega) hN h0
/-- (i, acc) -/
theorem loopB {α γ : Type} {body : Int32 × α → Option ((Int32 × α) ⊕ γ)} (F : Nat → α → α) (n : Nat) (out : α → γ) (P : Nat → α → Prop) {a : α} (h0 : P 0 a) (hs : ∀ i x, i < n → P i x → body (nI i, x) = some (.inl (nI (i + 1), F i x)) ∧ P (i + 1) (F i x)) (he : ∀ x, P n x → body (nI n, x) = some (.inr (out x))) {N : Nat} (hN : n < N) : zloop body N ((0 : Int32), a) = some (out (zfold F n a)) := by
  have key : ∀ (k i M : Nat), i + k = n → k < M → P i (zfold F i a) → zloop body M (nI i, zfold F i a) = some (out (zfold F n a)) := by
    intro k
    induction k with
    | zero =>
      intro i M hi hM hP
      obtain ⟨M', rfl⟩ : ∃ q, M = q + 1 := ⟨M - 1, by omega⟩
      have : i = n := by omega
      subst this
      simp [zloop, he _ hP]
    | succ k ih =>
      intro i M hi hM hP
      obtain ⟨M', rfl⟩ : ∃ q, M = q + 1 := ⟨M - 1, by omega⟩
      obtain ⟨h1, h2⟩ := hs i _ (by omega) hP
      simp only [zloop, h1, Option.bind_some]
      exact ih (i + 1) M' (by omega) (by omega) h2
  exact key n 0 N (by omega) hN h0
/-- the least i below n that answers, or the end: (i) alone -/
def zfirst {γ : Type} (F : Nat → Option γ) : Nat → Nat → Option γ
  | 0, _ => none
  | k + 1, i => match F i with
    | some r => some r
    | none => zfirst F k (i + 1)
theorem loopC {γ : Type} {body : Int32 → Option (Int32 ⊕ γ)} (F : Nat → Option γ) (n : Nat) (out : γ) (hs : ∀ i, i < n → body (nI i) = match F i with
    | some r => some (.inr r)
    | none => some (.inl (nI (i + 1)))) (he : body (nI n) = some (.inr out)) {N : Nat} : ∀ {i : Nat}, i ≤ n → n < N + i → zloop body N (nI i) = some ((zfirst F (n - i) i).getD out) := by
  induction N with
  | zero => intro i h1 h2; omega
  | succ N ih =>
    intro i h1 h2
    by_cases e : i = n
    · subst e
      simp [zloop, he, zfirst]
    · obtain ⟨k, hk⟩ : ∃ k, n - i = k + 1 := ⟨n - i - 1, by omega⟩
      have hb := hs i (by omega)
      rw [hk, zfirst]
      cases hF : F i with
      | some r => rw [hF] at hb; simp [zloop, hb]
      | none =>
        rw [hF] at hb
        simp only [zloop, hb, Option.bind_some]
        rw [ih (by omega) (by omega), show n - (i + 1) = k by omega]
