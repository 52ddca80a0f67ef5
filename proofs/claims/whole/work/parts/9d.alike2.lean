/-! ===== alike: the class's row ===== -/
section AM
variable {N x m c : Nat} {g g' : ZS} {A : ZA} {l l' : List Nat}
def lwB (g : ZS) (T : Nat) (l l' : List Nat) (i j k w : Nat) : Bool := decide ((mB l l' w ∧ i ≤ ix l w ∧ j ≤ ix l' w) ∧ zgi g (T + 4 + (ix l w + 1)) (ix l' w + 1) = nI k)
theorem lwB_iff {T i j k w : Nat} (hB : ∀ i j, i ≤ l.length → j ≤ l'.length → TBc g T l l' i j) (h8 : l.length ≤ 8) (hk : k ≤ 8) : lwB g T l l' i j k w = true ↔ (mB l l' w ∧ i ≤ ix l w ∧ j ≤ ix l' w) ∧ Mx l l' (ix l w + 1) (ix l' w + 1) k := by
  unfold lwB
  rw [decide_eq_true_iff]
  constructor
  · rintro ⟨h1, h2⟩
    refine ⟨h1, ?_⟩
    obtain ⟨k', v1, v2, v3⟩ := hB (ix l w + 1) (ix l' w + 1) (by have := h1.1.1; omega) (by have := h1.1.2; omega)
    rw [v1] at h2
    have := (nI_inj (by omega) (by omega)).mp h2
    rw [← this]; exact v2
  · rintro ⟨h1, h2⟩
    refine ⟨h1, ?_⟩
    obtain ⟨k', v1, v2, v3⟩ := hB (ix l w + 1) (ix l' w + 1) (by have := h1.1.1; omega) (by have := h1.1.2; omega)
    rw [v1, h2.uniq v2]
theorem e_least {i j k : Nat} (hN : 10000 ≤ N) (hC : CJ x g A) (hT : TS g (x + 480) l) (hT' : TS g (x + 493) l') (hB : ∀ i j, i ≤ l.length → j ≤ l'.length → TBc g (x + 480) l l' i j) (hi : i ≤ 20) (hj : j ≤ 20) (hk : k ≤ 8) : f_X11_leastOfLongest N x (nI i) (nI j) (nI (k + 1)) g = some (if zleast (lwB g (x + 480) l l' i j k) 8 0 < 8 then nI (zleast (lwB g (x + 480) l l' i j k) 8 0) else -nI 1) := by
  have hl8 := hT.2.1
  have hl8' := hT'.2.1
  obtain ⟨t1, t2, t3, t4, t5, t6, t7, t8⟩ := hC.1.TL480.f
  unfold f_X11_leastOfLongest
  refine loopL (body := fun s => f_X11_leastOfLongest_3 N x (nI i) (nI j) (nI (k + 1)) s g) (lwB g (x + 480) l l' i j k) (fun w => nI w) (-nI 1) 8 (fun w hw => ?_) ?_ (by omega)
  · show f_X11_leastOfLongest_3 N x (nI i) (nI j) (nI (k + 1)) (nI w) g = _
    unfold f_X11_leastOfLongest_3 f_X11_leastOfLongest_70
    rw [c_8, if_neg (nI_ge hw (by omega)), p_rdR hC.1.s0, hC.1.r0_12, Option.bind_some, p_vs t1, e_placeOf hN hC.1.TL480 hT (by omega), Option.bind_some, p_rdR hC.1.s0, hC.1.r0_13, Option.bind_some, p_vs hC.1.TL493.f.1, e_placeOf hN hC.1.TL493 hT' (by omega), Option.bind_some]
    have hix : ix l w ≤ l.length := ix_le
    have hix' : ix l' w ≤ l'.length := ix_le
    have no : lwB g (x + 480) l l' i j k w = false → (some (Sum.inl (nI w + 1)) : Option (Int32 ⊕ Int32)) = if lwB g (x + 480) l l' i j k w = true then some (.inr (nI w)) else some (.inl (nI (w + 1))) := fun h => by rw [h, if_neg Bool.false_ne_true, c_1, nI_add]
    by_cases c1 : ix l w < l.length ∧ i ≤ ix l w
    · rw [if_pos c1.1, if_neg (nI_nlt c1.2 (by omega))]
      by_cases c2 : ix l' w < l'.length ∧ j ≤ ix l' w
      · rw [if_pos c2.1, if_neg (nI_nlt c2.2 (by omega)), Option.bind_some, p_rdR t1, t7, Option.bind_some, c_1, nI_add, nI_add, a27_9 t4 (by omega), (t8 (ix l w + 1) (by omega)).1, Option.bind_some, a20_9 (t8 (ix l w + 1) (by omega)).2 (by omega), Option.bind_some]
        obtain ⟨v, v1, v2, v3⟩ := hB (ix l w + 1) (ix l' w + 1) (by omega) (by omega)
        rw [v1, nI_add]
        by_cases e : v = k
        · rw [if_pos (by rw [e, Nat.add_comm]), show lwB g (x + 480) l l' i j k w = true from decide_eq_true ⟨⟨⟨c1.1, c2.1⟩, c1.2, c2.2⟩, by rw [v1, e]⟩, if_pos rfl]; rfl
        · rw [if_neg (fun h => e (by have := (nI_inj (by omega) (by omega)).mp h; omega)), show lwB g (x + 480) l l' i j k w = false from decide_eq_false (fun h => e (by have := h.2; rw [v1] at this; exact (nI_inj (by omega) (by omega)).mp this)), if_neg Bool.false_ne_true, nI_add]
      · have hlt : (if ix l' w < l'.length then nI (ix l' w) else -nI 1) < nI j := by
          by_cases c3 : ix l' w < l'.length
          · rw [if_pos c3]; exact nI_lt (by omega) (by omega)
          · rw [if_neg c3]; exact (ng_lt2 (by omega) (by omega)).mpr (by omega)
        rw [if_pos hlt]
        exact no (decide_eq_false (fun h => c2 ⟨h.1.1.2, h.1.2.2⟩))
    · have hlt : (if ix l w < l.length then nI (ix l w) else -nI 1) < nI i := by
        by_cases c3 : ix l w < l.length
        · rw [if_pos c3]; exact nI_lt (by omega) (by omega)
        · rw [if_neg c3]; exact (ng_lt2 (by omega) (by omega)).mpr (by omega)
      rw [if_pos hlt]
      exact no (decide_eq_false (fun h => c1 ⟨h.1.1.1, h.1.2.1⟩))
  · show f_X11_leastOfLongest_3 N x (nI i) (nI j) (nI (k + 1)) (nI 8) g = _
    unfold f_X11_leastOfLongest_3
    rw [c_8, if_pos (nI_le (Nat.le_refl _) (by omega))]; rfl
theorem c_greedy {v : Int32} (hN : 10000 ≤ N) (hA : AI A c) (h8 : ∀ a, a < l.length → l.getD a 0 < 8) : ∀ (k M i j : Nat) (g : ZS) (r : List Int64), k < M → CJ x g A → TS g (x + 480) l → TS g (x + 493) l' → (∀ i j, i ≤ l.length → j ≤ l'.length → TBc g (x + 480) l l' i j) → Mx l l' i j k → i ≤ 20 → j ≤ 20 → r.length + k ≤ 8 → XR g (x + 3) (x + 4) r → zW (zloop (fun s => f_X11_alike_57 N x v s.1 s.2.1 s.2.2.1 s.2.2.2) M (nI i, nI j, nI k, g)) (fun o => o.1 = v ∧ ∃ G, Bst l l' i j k G ∧ zJ (SR (x + 3) (x + 4)) g o.2 ∧ XR o.2 (x + 3) (x + 4) (r ++ G.map wL))
  | 0, M, i, j, g, r, hM, hC, hT, hT', hB, hMx, hi, hj, hr, hX => by
    obtain ⟨M', rfl⟩ : ∃ q, M = q + 1 := ⟨M - 1, by omega⟩
    have hb : f_X11_alike_57 N x v (nI i) (nI j) (nI 0) g = some (.inr (v, g)) := by
      unfold f_X11_alike_57
      rw [if_pos (show nI 0 ≤ 0 by decide)]; rfl
    exact zW.eq (zl_inr (body := fun s => f_X11_alike_57 N x v s.1 s.2.1 s.2.2.1 s.2.2.2) hb) ⟨rfl, [], ⟨Ch.nil, rfl, fun s _ _ => trivial⟩, zJ.rfl, by rw [List.map_nil, List.append_nil]; exact hX⟩
  | k + 1, M, i, j, g, r, hM, hC, hT, hT', hB, hMx, hi, hj, hr, hX => by
    obtain ⟨M', rfl⟩ : ∃ q, M = q + 1 := ⟨M - 1, by omega⟩
    have hl8 := hT.2.1
    have hl8' := hT'.2.1
    obtain ⟨w0, w1, w2, w3⟩ := hMx.word h8
    have hiff := fun w => lwB_iff (w := w) (i := i) (j := j) (k := k) hB hl8 (by omega)
    obtain ⟨z1, z2, z3, z4⟩ := zleast_spec (lwB g (x + 480) l l' i j k) 8 0
    have hP0 := (hiff w0).mpr ⟨w2, w3⟩
    have hle : zleast (lwB g (x + 480) l l' i j k) 8 0 ≤ w0 := Nat.le_of_not_lt (fun h => by rw [z3 w0 (Nat.zero_le _) h] at hP0; cases hP0)
    have hel := e_least hN hC hT hT' hB hi hj (show k ≤ 8 by omega)
    obtain ⟨w, hw⟩ : ∃ w, w = zleast (lwB g (x + 480) l l' i j k) 8 0 := ⟨_, rfl⟩
    rw [← hw] at hle z3 z4 hel
    have hw8 : w < 8 := by omega
    rw [if_pos hw8] at hel
    obtain ⟨p1, p2⟩ := (hiff w).mp (z4 (by omega))
    have hlen := p1.1.1
    have hlen' := p1.1.2
    refine zW_bind.mpr ?_
    show zW (f_X11_alike_57 N x v (nI i) (nI j) (nI (k + 1)) g) _
    unfold f_X11_alike_57
    rw [if_neg (show ¬ nI (k + 1) ≤ 0 from nI_ge (show 0 < k + 1 by omega) (by omega))]
    refine w_vs hC.1.s0 (w_eq hel ?_)
    refine w_rdR hC.1.s0 hC.1.r0_1 (w_vs hC.1.s3 ?_)
    refine (s_add ⟨hC.1.s3, hC.1.s4, hC.1.r3_0⟩ hX (by omega)).bind (fun g2 h2 => ?_)
    obtain ⟨J2, X2⟩ := h2
    have C2 := hC.keep hA J2 (fun a j z => by omega)
    have T2 := hT.keep J2 (by omega) (fun j => by omega)
    have T2' := hT'.keep J2 (by omega) (fun j => by omega)
    refine w_rdR C2.1.s0 C2.1.r0_12 (w_vs C2.1.TL480.f.1 (w_eq (e_placeOf hN C2.1.TL480 T2 (by omega)) ?_))
    refine w_rdR C2.1.s0 C2.1.r0_13 (w_vs C2.1.TL493.f.1 (w_eq (e_placeOf hN C2.1.TL493 T2' (by omega)) ?_))
    rw [if_pos hlen, if_pos hlen', zW_some, nI_dec (by omega), c_1, nI_add, nI_add, Nat.add_sub_cancel]
    refine (c_greedy (v := v) hN hA h8 k M' (ix l w + 1) (ix l' w + 1) g2 (r ++ [wL w]) (by omega) C2 T2 T2' (fun a b h1 h2 => (hB a b h1 h2).keep J2 (by omega)) p2 (by omega) (by omega) (by rw [List.length_append, List.length_singleton]; omega) X2).mono (fun o ho => ?_)
    obtain ⟨o1, G, hG, J3, X3⟩ := ho
    refine ⟨o1, w :: G, Bst.step hMx p1 (fun v' hv hv2 hv3 => ?_) hG, J2.trans J3, ?_⟩
    · have := z3 v' (Nat.zero_le _) hv
      rw [(hiff v').mpr ⟨hv2, hv3⟩] at this
      cases this
    · rw [List.map_cons]
      rw [List.append_assoc] at X3
      exact X3
theorem c_alike {p q : Nat} (hN : 10000 ≤ N) (hC : CJ x g A) (hA : AI A c) (hp : p < an A) (hq : q < an A) : zW (zvs g x 11 <| (f_X11_followBoth N x (nI p) (nI q) g).bind fun g2 => (zrdR g2 x 11 12).bind fun v3 => (zrdR g2 x 11 13).bind fun v4 => zvs g2 v3 10 <| (f_X10_compare N v3 v4 g2).bind fun g5 => (zrdR g5 x 11 1).bind fun v6 => (zwrI g5 v6 9 1 (0 : Int32)).bind fun g7 => (zrdR g7 x 11 12).bind fun v8 => (zrdR g7 v8 10 2).bind fun v9 => (zaald 27 g7 v9 (0 : Int32)).bind fun v10 => (zald 20 g7 v10 (0 : Int32)).bind fun v11 => zloop (fun s => f_X11_alike_57 N x v11 s.1 s.2.1 s.2.2.1 s.2.2.2) N ((0 : Int32), (0 : Int32), v11, g7)) (fun o => ∃ k G, o.1 = nI k ∧ Mx (sayA A (aB A p) (ame A p)) (sayA A (aB A q) (ame A q)) 0 0 k ∧ Bst (sayA A (aB A p) (ame A p)) (sayA A (aB A q) (ame A q)) 0 0 k G ∧ k ≤ 8 ∧ zJ (Scr x) g o.2 ∧ XR o.2 (x + 3) (x + 4) (G.map wL)) := by
  have hat := fun j hj => (sayA_lt (A := A) (b := aB A p) (me := ame A p) (j := j) hj).1
  have han : ∀ i j, i < j → j < (sayA A (aB A p) (ame A p)).length → (sayA A (aB A p) (ame A p)).getD i 0 ≠ (sayA A (aB A p) (ame A p)).getD j 0 := fun i j hij hj => sayA_ne hij hj
  have hbn : ∀ i j, i < j → j < (sayA A (aB A q) (ame A q)).length → (sayA A (aB A q) (ame A q)).getD i 0 ≠ (sayA A (aB A q) (ame A q)).getD j 0 := fun i j hij hj => sayA_ne hij hj
  refine w_vs hC.1.s0 ((c_both hN hC hA hp hq).bind (fun g1 h1 => ?_))
  obtain ⟨J1, T1, T2, C1⟩ := h1
  generalize sayA A (aB A p) (ame A p) = l at *
  generalize sayA A (aB A q) (ame A q) = l' at *
  have hl8 := T1.2.1
  have hl8' := T2.2.1
  refine w_rdR C1.1.s0 C1.1.r0_12 (w_rdR C1.1.s0 C1.1.r0_13 (w_vs C1.1.TL480.f.1 ?_))
  refine (c_compare hN C1.1.TL480 C1.1.TL493 T1 T2 (by omega) han hbn).bind (fun g2 h2 => ?_)
  obtain ⟨J2, B2⟩ := h2
  have C2 := C1.keep hA J2 (fun a j z => by omega)
  have T12 := T1.keep J2 (by omega) (fun j => by omega)
  have T22 := T2.keep J2 (by omega) (fun j => by omega)
  refine w_rdR C2.1.s0 C2.1.r0_1 ?_
  rw [c_0, p_wrI C2.1.s3, Option.bind_some]
  have J3 : zJ (SR (x + 3) (x + 4)) g2 (zsetI g2 (x + 3) 1 (nI 0)) := zJ.setI (Or.inl ⟨rfl, rfl⟩)
  have C3 := C2.keep hA J3 (fun a j z => by omega)
  have B3 : ∀ i j, i ≤ l.length → j ≤ l'.length → TBc (zsetI g2 (x + 3) 1 (nI 0)) (x + 480) l l' i j := fun i j h1 h2 => (B2 i j h1 h2).keep J3 (by omega)
  obtain ⟨t1, t2, t3, t4, t5, t6, t7, t8⟩ := C3.1.TL480.f
  obtain ⟨k, v1, v2, v3⟩ := B3 0 0 (Nat.zero_le _) (Nat.zero_le _)
  refine w_rdR C3.1.s0 C3.1.r0_12 (w_rdR t1 t7 ?_)
  rw [a27_9 t4 (by omega), (t8 0 (by omega)).1, Option.bind_some, a20_9 (t8 0 (by omega)).2 (by omega), v1, Option.bind_some]
  refine (c_greedy hN hA hat k N 0 0 _ [] (by omega) C3 (T12.keep J3 (by omega) (fun j => by omega)) (T22.keep J3 (by omega) (fun j => by omega)) B3 v2 (by omega) (by omega) (by simp; omega) XR.zero).mono (fun o ho => ?_)
  obtain ⟨o1, G, hG, J4, X4⟩ := ho
  exact ⟨k, G, o1, v2, hG, by omega, (((J1.mono (fun a j z => by omega)).trans (J2.mono (fun a j z => by omega))).trans (J3.mono (fun a j z => by omega))).trans (J4.mono (fun a j z => by omega)), X4⟩
end AM
