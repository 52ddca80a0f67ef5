/-! ===== the law's other branches ===== -/
section LO
variable {N b L x c : Nat} {g g' : ZS} {A : ZA}
theorem l_callV {α β : Type} {f : Nat → ZS → Option α} {fR : Nat → ZS → Option (α × ZS)} {K : α → Option β} {Q : β → Prop} (hcall : Call (fun x g => (f x g).map (fun a => (a, g))) fR) (h : LI b L x c g A) (h512 : c < 512) (hk : ∀ (a : α), (∀ (K' : α × ZS → Option β) (Q' : β → Prop), (∀ g4 A', LI b L x (c + 1) g4 A' → zW (K' (a, g4)) Q') → zW (zvs g (x + 581) 12 <| (fR (x + 581) g).bind K') Q') → zW (K a) Q) : zW (zvs g x 11 <| (f x g).bind K) Q := by
  obtain ⟨s1, s2, s3, hC, hR, s4, s5, hA⟩ := h
  obtain ⟨a, A', hA', h1, h2⟩ := hcall x (x + 581) c g A hC hA h512
  obtain ⟨r, e1, e2, Z2, C2⟩ := h1
  dsimp only at e1
  cases hf : f x g with
  | none => rw [hf] at e1; cases e1
  | some a' =>
    rw [hf, Option.map_some] at e1
    injection e1 with e1
    subst e1
    dsimp only at e2 Z2 C2
    subst e2
    refine w_vs hC.1.1.s0 ?_
    rw [Option.bind_some]
    refine hk a' (fun K' Q' hK' => ?_)
    refine w_vs hR.1.1.s0 (zW.bind (h2 g hR) (fun o ho => ?_))
    obtain ⟨y', g4⟩ := o
    obtain ⟨o1, Z4, R4⟩ := ho
    dsimp only at o1 Z4 R4
    subst o1
    have C4 : CI x g4 A' := C2.byX hA' Z4 (by omega) (by omega)
    have b4 := Z4.2 b (by omega) (by omega)
    have o4 := Z4.2 (x + 614) (by omega) (by omega)
    have z4 := Z4.1
    exact hK' g4 A' ⟨b4.1.trans s1, s2, s3, C4, R4, o4.1.trans s4, by omega, hA'⟩
theorem l_510 (h : LI b L x c g A) (h5 : 5 * c + 5 ≤ L) : zW (f_L_law_510 N b x (x + 581) (x + 614) (nI (5 * c)) g) (LQ b L x c) := by
  have hL := h.2.2.1
  unfold f_L_law_510
  refine l_cap (by omega) ?_
  rw [c_1, c_2]
  refine l_rd (k := 0) h.1 hL (by omega) (l_rd (k := 0) h.1 hL (by omega) ?_)
  refine l_callV (f := fun x g => f_X11_said x _ _ g) (k_said _ _) h (by omega) (fun a hr => ?_)
  refine l_rd (k := 0) h.1 hL (by omega) (l_rd (k := 0) h.1 hL (by omega) ?_)
  refine hr _ _ (fun g4 A' h4 => ?_)
  rw [if_pos rfl]
  exact l_next h4 (by omega)
theorem l_1593 (hN : 10000 ≤ N) (h : LI b L x c g A) (h5 : 5 * c + 5 ≤ L) : zW (f_L_law_1593 N b x (x + 581) (x + 614) (nI (5 * c)) g) (LQ b L x c) := by
  have hL := h.2.2.1
  unfold f_L_law_1593
  refine l_cap (by omega) ?_
  rw [c_1]
  refine l_rd (k := 0) h.1 hL (by omega) ?_
  refine l_callV (f := fun x g => f_X11_count N x _ g) (k_count hN _) h (by omega) (fun a hr => ?_)
  refine l_rd (k := 0) h.1 hL (by omega) ?_
  refine hr _ _ (fun g4 A' h4 => ?_)
  rw [if_pos rfl]
  exact l_next h4 (by omega)
/-- a call that may throw -/
theorem l_callO {α : Type} {fC : Nat → ZS → Option (Option α × ZS)} {fR : Nat → ZS → Option (α × ZS)} {t : Option (Int32 × ZS)} {β : Type} {K : Int32 × ZS → Option β} {Q : β → Prop} (conv : α → Int64) (hcall : CallO fC fR) (h : LI b L x c g A) (h512 : c < 512) (ht1 : ∀ v g1, fC x g = some (some v, g1) → t = (zlast g1 (x + 614) (0 : Int32) (conv v)).bind fun g2 => some ((0 : Int32), g2)) (ht2 : ∀ g1, fC x g = some (none, g1) → t = some ((1 : Int32), g1)) (hk : ∀ (a : Option α) (g2 : ZS), zsh g2 b = some (28, L) → (∀ j, zgi g2 b j = zgi g b j) → (∀ (K' : α × ZS → Option β) (Q' : β → Prop), (∀ y g4, LI b L x (c + 1) g4 A → zgi g4 (x + 581) 10 = nI (if a.isSome then 0 else 1) → (∀ v, a = some v → y = v ∧ zgl g4 (x + 614) 0 = conv v) → zW (K' (y, g4)) Q') → zW (zvs g2 (x + 581) 12 <| (fR (x + 581) g2).bind K') Q') → zW (K (nI (if a.isSome then 0 else 1), g2)) Q) : zW (t.bind K) Q := by
  obtain ⟨s1, s2, s3, hC, hR, s4, s5, hA⟩ := h
  obtain ⟨a, h1, h2⟩ := hcall x (x + 581) c g A hC hA h512
  obtain ⟨⟨y, g1⟩, e1, e2, Z2, C2⟩ := h1
  dsimp only at e2 Z2 C2
  subst e2
  have fin : ∀ g2, zX (x + 614) (x + 615) g1 g2 → (∀ v, y = some v → zgl g2 (x + 614) 0 = conv v) → zsh g2 (x + 614) = some (24, 1) → zW (K (nI (if y.isSome then 0 else 1), g2)) Q := by
    intro g2 Z3 hv so
    have zz := Z2.1
    have zz' := Z3.1
    have R2 : RI (x + 581) g2 A := (hR.byX hA Z2 (by omega) (by omega)).byX hA Z3 (by omega) (by omega)
    have C2' : CI x g2 A := C2.byX hA Z3 (by omega) (by omega)
    have b2 := Z2.2 b (by omega) (by omega)
    have b3 := Z3.2 b (by omega) (by omega)
    refine hk y g2 (b3.1.trans (b2.1.trans s1)) (fun j => ((b3.2 j).1).trans (b2.2 j).1) (fun K' Q' hK' => ?_)
    refine w_vs R2.1.1.s0 (zW.bind (h2 g2 R2) (fun o ho => ?_))
    obtain ⟨y', g4⟩ := o
    obtain ⟨o1, o2, Z4, R4⟩ := ho
    dsimp only at o1 o2 Z4 R4
    have b4 := Z4.2 b (by omega) (by omega)
    have o4 := Z4.2 (x + 614) (by omega) (by omega)
    have z4 := Z4.1
    exact hK' y' g4 ⟨b4.1.trans (b3.1.trans (b2.1.trans s1)), s2, s3, C2'.byX hA Z4 (by omega) (by omega), R4, o4.1.trans so, by omega, hA.mono (Nat.le_succ c)⟩ o1 (fun v e => ⟨o2 v e, ((o4.2 0).2.1).trans (hv v e)⟩)
  have so1 : zsh g1 (x + 614) = some (24, 1) := (Z2.2 (x + 614) (by omega) (by omega)).1.trans s4
  cases y with
  | none =>
    rw [ht2 g1 e1, Option.bind_some]
    exact fin g1 zX.rfl (fun v e => (by cases e)) so1
  | some v =>
    rw [ht1 v g1 e1, c_0, p_last (n := 1) so1 (by omega) (by decide), Option.bind_some, Option.bind_some]
    refine fin _ ⟨Nat.le_refl _, fun a _ ho => ⟨rfl, fun j => ⟨rfl, ?_, rfl⟩⟩⟩ (fun v' e => ?_) so1
    · rw [gl_sL, if_neg (by omega)]
    · rw [← Option.some.inj e]; show zgl (zsetL g1 (x + 614) 0 (conv v)) (x + 614) 0 = conv v; rw [gl_sL, if_pos ⟨rfl, rfl⟩]
end LO
