/-! ===== the pure layer: what a term comes to ===== -/
def zW {α : Type} (t : Option α) (Q : α → Prop) : Prop := ∃ r, t = some r ∧ Q r
theorem zW_some {α : Type} {r : α} {Q : α → Prop} : zW (some r) Q ↔ Q r := ⟨fun ⟨_, h, hq⟩ => by cases h; exact hq, fun h => ⟨r, rfl, h⟩⟩
theorem zW_bind {α β : Type} {t : Option α} {k : α → Option β} {Q : β → Prop} : zW (t.bind k) Q ↔ zW t (fun r => zW (k r) Q) := by
  constructor
  · rintro ⟨r, h, hq⟩
    cases ht : t with
    | none => rw [ht] at h; cases h
    | some x => rw [ht] at h; exact ⟨x, rfl, r, h, hq⟩
  · rintro ⟨x, hx, r, h, hq⟩
    exact ⟨r, by rw [hx]; exact h, hq⟩
theorem zW_map {α β : Type} {t : Option α} {f : α → β} {Q : β → Prop} : zW (t.map f) Q ↔ zW t (fun r => Q (f r)) := by
  constructor
  · rintro ⟨r, h, hq⟩
    cases ht : t with
    | none => rw [ht] at h; cases h
    | some x => rw [ht] at h; cases h; exact ⟨x, rfl, hq⟩
  · rintro ⟨x, hx, hq⟩
    exact ⟨f x, by rw [hx]; rfl, hq⟩
theorem zW.mono {α : Type} {t : Option α} {Q Q' : α → Prop} (h : zW t Q) (hq : ∀ r, Q r → Q' r) : zW t Q' := by
  obtain ⟨r, h1, h2⟩ := h
  exact ⟨r, h1, hq r h2⟩
theorem zW.eq {α : Type} {t : Option α} {r : α} {Q : α → Prop} (h : t = some r) (hq : Q r) : zW t Q := ⟨r, h, hq⟩
theorem zW.bind {α β : Type} {t : Option α} {k : α → Option β} {P : α → Prop} {Q : β → Prop} (h : zW t P) (hk : ∀ r, P r → zW (k r) Q) : zW (t.bind k) Q := zW_bind.mpr (h.mono hk)
/-! a loop -/
def zI {S γ : Type} (P : S → Prop) (Q : γ → Prop) : S ⊕ γ → Prop := fun r => match r with
  | .inl s => P s
  | .inr o => Q o
theorem zW_while {S γ : Type} {body : S → Option (S ⊕ γ)} {Q : γ → Prop} (I : Nat → S → Prop) (h : ∀ k s, I k s → zW (body s) (zI (fun s' => ∃ k', k' < k ∧ I k' s') Q)) : ∀ (k N : Nat) (s : S), k < N → I k s → zW (zloop body N s) Q := by
  intro k
  induction k using Nat.strongRecOn with
  | _ k ih =>
    intro N s hN hI
    obtain ⟨M, rfl⟩ : ∃ q, N = q + 1 := ⟨N - 1, by omega⟩
    obtain ⟨r, h1, h2⟩ := h k s hI
    refine zW_bind.mpr ⟨r, h1, ?_⟩
    cases r with
    | inl s' =>
      obtain ⟨k', h3, h4⟩ := h2
      exact ih k' h3 M s' (by omega) h4
    | inr o => exact ⟨o, rfl, h2⟩
/-- for (i = i0; i < n; i++) -/
theorem zW_for {S γ : Type} {body : S → Option (S ⊕ γ)} {Q : γ → Prop} (I : Nat → S → Prop) (n : Nat) (h : ∀ i s, i < n → I i s → zW (body s) (zI (I (i + 1)) Q)) (he : ∀ s, I n s → zW (body s) (zI (fun _ => False) Q)) {N : Nat} (hN : n < N) {i0 : Nat} {s0 : S} (hi : i0 ≤ n) (h0 : I i0 s0) : zW (zloop body N s0) Q := by
  refine zW_while (fun k s => ∃ i, i + k = n ∧ I i s) (fun k s hs => ?_) (n - i0) N s0 (by omega) ⟨i0, by omega, h0⟩
  obtain ⟨i, hi, hI⟩ := hs
  by_cases hk : k = 0
  · subst hk
    have : i = n := by omega
    subst this
    refine (he s hI).mono (fun r hr => ?_)
    cases r with
    | inl s' => exact absurd hr id
    | inr o => exact hr
  · refine (h i s (by omega) hI).mono (fun r hr => ?_)
    cases r with
    | inl s' => exact ⟨k - 1, by omega, i + 1, by omega, hr⟩
    | inr o => exact hr
/-! reads and writes -/
theorem zin_nI {k n : Nat} (h : k < n) (hn : n < 2 ^ 31) : zin (nI k) n = true := decide_eq_true (nI_in h hn)
section ZP
variable {g : ZS} {a ci j b n k kd : Nat} {v : Int32} {w : Int64} {γ : Type}
theorem p_rdI (h : zsh g a = some (ci, 0)) : zrdI g a ci j = some (zgi g a j) := if_pos h
theorem p_rdR (h : zsh g a = some (ci, 0)) : zrdR g a ci j = zgr g a j := if_pos h
theorem p_wrI (h : zsh g a = some (ci, 0)) : zwrI g a ci j v = some (zsetI g a j v) := if_pos h
theorem p_wrZ (h : zsh g a = some (ci, 0)) (hv : v = 0 ∨ v = 1) : zwrZ g a ci j v = some (zsetI g a j v) := if_pos ⟨h, hv⟩
theorem p_wrZ0 (h : zsh g a = some (ci, 0)) : zwrZ g a ci j 0 = some (zsetI g a j 0) := if_pos ⟨h, Or.inl rfl⟩
theorem p_wrZ1 (h : zsh g a = some (ci, 0)) : zwrZ g a ci j 1 = some (zsetI g a j 1) := if_pos ⟨h, Or.inr rfl⟩
theorem p_wrR (h : zsh g a = some (ci, 0)) : zwrR g a ci j b = some (zsetR g a j (some b)) := if_pos h
theorem p_vs {t : Option γ} (h : zsh g a = some (ci, 0)) : zvs g a ci t = t := if_pos h
theorem p_ald (h : zsh g a = some (kd, n)) (hk : k < n) (hn : n < 2 ^ 31) : zald kd g a (nI k) = some (zgi g a k) := by
  unfold zald
  rw [zlen_of h, Option.bind_some, if_pos (zin_nI hk hn), nI_clamp (by omega)]
theorem p_ast (h : zsh g a = some (kd, n)) (hk : k < n) (hn : n < 2 ^ 31) : zast kd g a (nI k) v = some (zsetI g a k (vp_nar (zta kd) v)) := by
  unfold zast
  rw [zlen_of h, Option.bind_some, if_pos (zin_nI hk hn), nI_clamp (by omega)]
theorem p_iast (h : zsh g a = some (20, n)) (hk : k < n) (hn : n < 2 ^ 31) : zast 20 g a (nI k) v = some (zsetI g a k v) := p_ast h hk hn
theorem p_lald (h : zsh g a = some (24, n)) (hk : k < n) (hn : n < 2 ^ 31) : zlald g a (nI k) = some (zgl g a k) := by
  unfold zlald
  rw [zlen_of h, Option.bind_some, if_pos (zin_nI hk hn), nI_clamp (by omega)]
theorem p_last (h : zsh g a = some (24, n)) (hk : k < n) (hn : n < 2 ^ 31) : zlast g a (nI k) w = some (zsetL g a k w) := by
  unfold zlast
  rw [zlen_of h, Option.bind_some, if_pos (zin_nI hk hn), nI_clamp (by omega)]
theorem p_aald (h : zsh g a = some (kd, n)) (hk : k < n) (hn : n < 2 ^ 31) : zaald kd g a (nI k) = zgr g a k := by
  unfold zaald
  rw [zlen_of h, Option.bind_some, if_pos (zin_nI hk hn), nI_clamp (by omega)]
theorem p_aast (h : zsh g a = some (kd, n)) (hk : k < n) (hn : n < 2 ^ 31) (hb : zsh g b = some (zcomp kd, 0)) : zaast kd g a (nI k) b = some (zsetR g a k (some b)) := by
  unfold zaast
  rw [zlen_of h, Option.bind_some, if_pos ⟨zin_nI hk hn, hb⟩, nI_clamp (by omega)]
end ZP
/-! what the worlds hold after a write -/
theorem sh_sI {g : ZS} {a j : Nat} {v : Int32} : zsh (zsetI g a j v) = zsh g := rfl
theorem sh_sL {g : ZS} {a j : Nat} {v : Int64} : zsh (zsetL g a j v) = zsh g := rfl
theorem sh_sR {g : ZS} {a j : Nat} {v : Option Nat} : zsh (zsetR g a j v) = zsh g := rfl
theorem gr_sI {g : ZS} {a j : Nat} {v : Int32} : zgr (zsetI g a j v) = zgr g := rfl
theorem gr_sL {g : ZS} {a j : Nat} {v : Int64} : zgr (zsetL g a j v) = zgr g := rfl
theorem gi_sL {g : ZS} {a j : Nat} {v : Int64} : zgi (zsetL g a j v) = zgi g := rfl
theorem gi_sR {g : ZS} {a j : Nat} {v : Option Nat} : zgi (zsetR g a j v) = zgi g := rfl
theorem gl_sI {g : ZS} {a j : Nat} {v : Int32} : zgl (zsetI g a j v) = zgl g := rfl
theorem gl_sR {g : ZS} {a j : Nat} {v : Option Nat} : zgl (zsetR g a j v) = zgl g := rfl
theorem sz_sI {g : ZS} {a j : Nat} {v : Int32} : zsz (zsetI g a j v) = zsz g := rfl
theorem sz_sL {g : ZS} {a j : Nat} {v : Int64} : zsz (zsetL g a j v) = zsz g := rfl
theorem sz_sR {g : ZS} {a j : Nat} {v : Option Nat} : zsz (zsetR g a j v) = zsz g := rfl
theorem gi_sI {g : ZS} {a j x y : Nat} {v : Int32} : zgi (zsetI g a j v) x y = if x = a ∧ y = j then v else zgi g x y := rfl
theorem gl_sL {g : ZS} {a j x y : Nat} {v : Int64} : zgl (zsetL g a j v) x y = if x = a ∧ y = j then v else zgl g x y := rfl
theorem gr_sR {g : ZS} {a j x y : Nat} {v : Option Nat} : zgr (zsetR g a j v) x y = if x = a ∧ y = j then v else zgr g x y := rfl
/-! the frame: two worlds that differ at places of S alone -/
def zE (S : Nat → Nat → Prop) (g g' : ZS) : Prop := zsh g' = zsh g ∧ zsz g' = zsz g ∧ ∀ a j, ¬ S a j → zgi g' a j = zgi g a j ∧ zgl g' a j = zgl g a j ∧ zgr g' a j = zgr g a j
theorem zE.rfl {S : Nat → Nat → Prop} {g : ZS} : zE S g g := ⟨_root_.rfl, _root_.rfl, fun _ _ _ => ⟨_root_.rfl, _root_.rfl, _root_.rfl⟩⟩
theorem zE.trans {S : Nat → Nat → Prop} {g g' g'' : ZS} (h : zE S g g') (h' : zE S g' g'') : zE S g g'' :=
  ⟨h'.1.trans h.1, h'.2.1.trans h.2.1, fun a j hS => ⟨(h'.2.2 a j hS).1.trans (h.2.2 a j hS).1, (h'.2.2 a j hS).2.1.trans (h.2.2 a j hS).2.1, (h'.2.2 a j hS).2.2.trans (h.2.2 a j hS).2.2⟩⟩
theorem zE.mono {S S' : Nat → Nat → Prop} {g g' : ZS} (h : zE S g g') (hS : ∀ a j, S a j → S' a j) : zE S' g g' := ⟨h.1, h.2.1, fun a j hn => h.2.2 a j (fun hs => hn (hS a j hs))⟩
theorem zne {S : Nat → Nat → Prop} {a j x y : Nat} (h : S a j) (hS : ¬ S x y) : ¬ (x = a ∧ y = j) := by
  rintro ⟨e1, e2⟩
  subst e1 e2
  exact hS h
theorem zE.setI {S : Nat → Nat → Prop} {g : ZS} {a j : Nat} {v : Int32} (h : S a j) : zE S g (zsetI g a j v) := ⟨_root_.rfl, _root_.rfl, fun x y hS => ⟨by rw [gi_sI, if_neg (zne h hS)], _root_.rfl, _root_.rfl⟩⟩
theorem zE.setL {S : Nat → Nat → Prop} {g : ZS} {a j : Nat} {v : Int64} (h : S a j) : zE S g (zsetL g a j v) := ⟨_root_.rfl, _root_.rfl, fun x y hS => ⟨_root_.rfl, by rw [gl_sL, if_neg (zne h hS)], _root_.rfl⟩⟩
theorem zE.setR {S : Nat → Nat → Prop} {g : ZS} {a j : Nat} {v : Option Nat} (h : S a j) : zE S g (zsetR g a j v) := ⟨_root_.rfl, _root_.rfl, fun x y hS => ⟨_root_.rfl, _root_.rfl, by rw [gr_sR, if_neg (zne h hS)]⟩⟩
theorem zE.gi {S : Nat → Nat → Prop} {g g' : ZS} (h : zE S g g') {a j : Nat} (hn : ¬ S a j) : zgi g' a j = zgi g a j := (h.2.2 a j hn).1
theorem zE.gl {S : Nat → Nat → Prop} {g g' : ZS} (h : zE S g g') {a j : Nat} (hn : ¬ S a j) : zgl g' a j = zgl g a j := (h.2.2 a j hn).2.1
theorem zE.gr {S : Nat → Nat → Prop} {g g' : ZS} (h : zE S g g') {a j : Nat} (hn : ¬ S a j) : zgr g' a j = zgr g a j := (h.2.2 a j hn).2.2
/-! numbers -/
theorem nI_inj {a b : Nat} (ha : a < 2 ^ 31) (hb : b < 2 ^ 31) : nI a = nI b ↔ a = b := ⟨fun h => by have := congrArg Int32.toNatClampNeg h; rwa [nI_clamp ha, nI_clamp hb] at this, fun h => by rw [h]⟩
theorem nI_le_iff {a b : Nat} (ha : a < 2 ^ 31) (hb : b < 2 ^ 31) : nI a ≤ nI b ↔ a ≤ b := ⟨fun h => Nat.le_of_not_lt fun h' => nI_ge h' ha h, fun h => nI_le h hb⟩
theorem nI_lt_iff {a b : Nat} (ha : a < 2 ^ 31) (hb : b < 2 ^ 31) : nI a < nI b ↔ a < b := ⟨fun h => Nat.lt_of_not_le fun h' => nI_nlt h' ha h, fun h => nI_lt h hb⟩
theorem nI_ex {v : Int32} (h : 0 ≤ v) : ∃ n, n < 2 ^ 31 ∧ v = nI n := by
  obtain ⟨n, hn, e⟩ := nI_of (Int32.not_lt.mpr h)
  exact ⟨n, hn, e⟩
