/-! ===== a step of the law ===== -/
def LI (b L x c : Nat) (g : ZS) (A : ZA) : Prop := zsh g b = some (28, L) ∧ b < x ∧ L ≤ 2560 ∧ CI x g A ∧ RI (x + 581) g A ∧ zsh g (x + 614) = some (24, 1) ∧ x + 615 ≤ zsz g ∧ AI A c
def LQ (b L x c : Nat) : ((Int32 × ZS) ⊕ (Int32 × ZS)) → Prop := zI (fun s => s.1 = nI (5 * (c + 1)) ∧ ∃ A', LI b L x (c + 1) s.2 A') (fun o => o.1 = 1)
section LS
variable {N b L x c : Nat} {g g' : ZS} {A : ZA}
theorem l_cap {γ : Type} {Q : γ → Prop} {i : Nat} {t : Option γ} (hi : i ≤ 2560) (h : zW t Q) : zW (zcap (nI i) t) Q := by
  unfold zcap
  rw [if_pos ⟨by rw [c_0]; exact nI_le (by omega) (by omega), by rw [nI_clamp (by omega)]; exact hi⟩]
  exact h
theorem l_rd {γ : Type} {Q : γ → Prop} {k i j : Nat} {f : Int32 → Option γ} (hs : zsh g b = some (28, L)) (hL : L ≤ 2560) (hk : i + j < L) (h : zW (f (zgi g b (i + j))) Q) : zW ((zald 28 g b (nI i + nI j)).bind f) Q := by
  rw [nI_add, p_ald hs hk (by omega), Option.bind_some]; exact h
theorem l_next {A' : ZA} (h : LI b L x (c + 1) g A') (hc : 5 * c ≤ 2560) : zW (f_L_law_1673 N b x (x + 581) (x + 614) (nI (5 * c)) g) (LQ b L x c) := by
  unfold f_L_law_1673
  refine l_cap hc ?_
  rw [zW_some]
  refine ⟨?_, A', h⟩
  show nI (5 * c) + (5 : Int32) = _
  rw [c_5, nI_add, Nat.mul_add]
theorem l_call {α β : Type} {fC fR : Nat → ZS → Option (α × ZS)} {K : α × ZS → Option β} {Q : β → Prop} (hcall : Call fC fR) (h : LI b L x c g A) (h512 : c < 512) (hk : ∀ (a : α) (g2 : ZS), zsh g2 b = some (28, L) → (∀ j, zgi g2 b j = zgi g b j) → (∀ (K' : α × ZS → Option β) (Q' : β → Prop), (∀ g4 A', LI b L x (c + 1) g4 A' → zW (K' (a, g4)) Q') → zW (zvs g2 (x + 581) 12 <| (fR (x + 581) g2).bind K') Q') → zW (K (a, g2)) Q) : zW (zvs g x 11 <| (fC x g).bind K) Q := by
  obtain ⟨s1, s2, s3, hC, hR, s4, s5, hA⟩ := h
  obtain ⟨a, A', hA', h1, h2⟩ := hcall x (x + 581) c g A hC hA h512
  refine w_vs hC.1.1.s0 (zW.bind h1 (fun o ho => ?_))
  obtain ⟨y, g2⟩ := o
  obtain ⟨o1, Z2, C2⟩ := ho
  dsimp only at o1 Z2 C2
  subst o1
  have R2 : RI (x + 581) g2 A := hR.byX hA Z2 (by omega) (by omega)
  have b2 := Z2.2 b (by omega) (by omega)
  have o2 := Z2.2 (x + 614) (by omega) (by omega)
  have z2 := Z2.1
  refine hk y g2 (b2.1.trans s1) (fun j => (b2.2 j).1) (fun K' Q' hK' => ?_)
  refine w_vs R2.1.1.s0 (zW.bind (h2 g2 R2) (fun o ho => ?_))
  obtain ⟨y', g4⟩ := o
  obtain ⟨o1, Z4, R4⟩ := ho
  dsimp only at o1 Z4 R4
  subst o1
  have C4 : CI x g4 A' := C2.byX hA' Z4 (by omega) (by omega)
  have b4 := Z4.2 b (by omega) (by omega)
  have o4 := Z4.2 (x + 614) (by omega) (by omega)
  have z4 := Z4.1
  exact hK' g4 A' ⟨b4.1.trans (b2.1.trans s1), s2, s3, C4, R4, o4.1.trans (o2.1.trans s4), by omega, hA'⟩
theorem l_248 (hN : 10000 ≤ N) (h : LI b L x c g A) (h5 : 5 * c + 5 ≤ L) : zW (f_L_law_248 N b x (x + 581) (x + 614) (nI (5 * c)) g) (LQ b L x c) := by
  have hL := h.2.2.1
  unfold f_L_law_248
  refine l_cap (by omega) ?_
  rw [c_1]
  refine l_rd (k := 0) h.1 hL (by omega) ?_
  refine l_call (k_sign hN _) h (by omega) (fun a g2 e1 e2 hr => ?_)
  refine l_rd (k := 0) e1 hL (by omega) ?_
  rw [e2]
  refine hr _ _ (fun g4 A' h4 => ?_)
  rw [if_pos rfl]
  exact l_next h4 (by omega)
theorem l_1044 (hN : 10000 ≤ N) (h : LI b L x c g A) (h5 : 5 * c + 5 ≤ L) : zW (f_L_law_1044 N b x (x + 581) (x + 614) (nI (5 * c)) g) (LQ b L x c) := by
  have hL := h.2.2.1
  unfold f_L_law_1044
  refine l_cap (by omega) ?_
  rw [c_1, c_2]
  refine l_rd (k := 0) h.1 hL (by omega) (l_rd (k := 0) h.1 hL (by omega) ?_)
  refine l_call (k_hear hN _ _) h (by omega) (fun a g2 e1 e2 hr => ?_)
  refine l_rd (k := 0) e1 hL (by omega) (l_rd (k := 0) e1 hL (by omega) ?_)
  rw [e2, e2]
  refine hr _ _ (fun g4 A' h4 => ?_)
  rw [if_pos rfl]
  exact l_next h4 (by omega)
end LS
