theorem t_s166 : Cond.stringRef RX11 166 "no such parrot" ∈ tables_1 := List.mem_append_right _ (List.mem_append_right _ (List.mem_append_right _ (List.mem_append_right _ (List.mem_append_left _ (List.mem_of_getElem? (i := 121) (by decide +kernel))))))
theorem t_s194 : Cond.stringRef RX11 194 "nothing such of a parrot" ∈ tables_1 := List.mem_append_right _ (List.mem_append_right _ (List.mem_append_right _ (List.mem_append_right _ (List.mem_append_left _ (List.mem_of_getElem? (i := 147) (by decide +kernel))))))
theorem t_s199 : Cond.stringRef RX11 199 "no such parrot or word" ∈ tables_1 := List.mem_append_right _ (List.mem_append_right _ (List.mem_append_right _ (List.mem_append_right _ (List.mem_append_left _ (List.mem_of_getElem? (i := 155) (by decide +kernel))))))
theorem t_s217 : Cond.stringRef RX11 217 "nothing such of a word" ∈ tables_1 := List.mem_append_right _ (List.mem_append_right _ (List.mem_append_right _ (List.mem_append_right _ (List.mem_append_left _ (List.mem_of_getElem? (i := 157) (by decide +kernel))))))
theorem t_s460 : Cond.stringRef RX11 460 "no such number of the row" ∈ tables_1 := List.mem_append_right _ (List.mem_append_right _ (List.mem_append_right _ (List.mem_append_right _ (List.mem_append_left _ (List.mem_of_getElem? (i := 165) (by decide +kernel))))))
theorem t_lU : Cond.laysStatic Jvm.Bundle.tN "UNASSIGNED_STACK" Jvm.Bundle.steD ∈ tables_1 := List.mem_append_right _ (List.mem_append_right _ (List.mem_append_right _ (List.mem_append_right _ (List.mem_append_left _ (List.mem_of_getElem? (i := 109) (by decide +kernel))))))
theorem t_lN : Cond.laysStatic Jvm.Bundle.tN "SUPPRESSED_SENTINEL" Jvm.Bundle.listD ∈ tables_1 := List.mem_append_right _ (List.mem_append_right _ (List.mem_append_right _ (List.mem_append_right _ (List.mem_append_left _ (List.mem_of_getElem? (i := 111) (by decide +kernel))))))
theorem t_iT : Cond.initialized Jvm.Bundle.tN ∈ tables_1 := List.mem_append_left _ (List.mem_of_getElem? (i := 19) (by decide +kernel))
theorem w_xk : Cond.classLink RX11 164 RNS ∈ ztbl := zwt5 82 (by decide +kernel) gd_classLink
theorem w_xi : Cond.initialized RNS ∈ ztbl := zwt1 22 (by decide +kernel) gd_initialized
theorem w_xl : Cond.classLink RL 13 RNS ∈ ztbl := zwt5 77 (by decide +kernel) gd_classLink
theorem t_cc : Cond.castable RNS RNS ∈ tables_1 := List.mem_append_right _ (List.mem_append_right _ (List.mem_append_right _ (List.mem_append_right _ (List.mem_append_left _ (List.mem_of_getElem? (i := 84) (by decide +kernel))))))
/-- behind a throw: one cell more, of which nothing is said -/
def zthrown (g : ZS) : ZS := (g.1, g.2.1, g.2.2.1, g.2.2.2.1, g.2.2.2.2 + 1)
theorem zR.thrown {D : ZD} {B0 : Nat} {g : ZS} {H H' : Heap} (h : zR D B0 g H) (hz : H'.size = H.size + 1) (ho : ∀ b, b < H.size → H'[b]? = H[b]?) : zR D B0 (zthrown g) H' := by
  obtain ⟨h1, h2, h3, h4, h5⟩ := h
  refine ⟨by rw [hz, h1]; rfl, fun a q hq => ?_, fun a q hq => h3 a q hq, Nat.le_succ_of_le h4, h5.1, fun q hq => ?_⟩
  · have hc := h2 a q hq
    exact hc.kept (ho a hc.lt) (fun _ => rfl) (fun _ => rfl) (fun _ => rfl)
  · rw [ho q (by rw [h1]; exact Nat.lt_of_lt_of_le hq h4)]
    exact h5.2 q hq
def zXC (D : ZD) (B0 : Nat) (KX : ZS → Prop) : String → State → State → Prop := fun E _ t => E = RNS ∧ ∃ g, KX g ∧ zR D B0 g t.heap
def zThr (Y : ZY) (X : ZX) (g : ZS) (t : State) : Prop := vx_MQ (xb X) (fun _ _ _ _ => False) (zXC (xD X) (xB X) (fun g1 => g1 = g)) (xa X) (xs X) (yk Y) (yt Y) (fun a => xB X ≤ a) t
theorem zA_out {D : ZD} : ∀ a : Nat, a < (zs0 D).heap.size → ¬ zA D a := fun a ha hb => Nat.lt_irrefl _ (Nat.lt_of_lt_of_le ha hb)
theorem zvk {D : ZD} (h : zF D) {n i : Nat} {tx : String} (h1 : Cond.stringRef RX11 n tx ∈ tables_1) (h2 : (zfl narrow_1)[i]? = some (.exactly (.string RX11 n) RJ0)) : ∃ sa, vk_R RX11 n tx sa (zs0 D) := by
  obtain ⟨a, c, cA, kA, q1, -⟩ := Cond.exactly_spec (args := D.1.2.2) (first := zs0 D) (o := none) (s := zs0 D) (idx := []) (zNa h i h2)
  refine ⟨a, ?_, ?_⟩
  · have := zinT h h1
    first | exact this | exact va_tabs rfl rfl this
  · first | exact q1 | (rw [Term.string_eval_of_vm (args := #[]) rfl]; exact q1)
theorem zAt_at {Y : ZY} {X : ZX} (ok : zOk Y X) : ∀ w ∈ zAt.filter vx_no, w.before (xa X) (xs X) = true := by
  intro w hw
  obtain ⟨h1, h2⟩ := zAt_in w hw
  rcases h1 with h1 | h1
  · exact ok.2.2.2.2.1 w (List.mem_filter.mpr ⟨List.mem_append_right _ h2, h1⟩)
  · exact zmv_at ok.2.2.2.2.2.1.2.2.2.2.2.2.2.2 h1 (zinT ok.2.2.2.2.2.1.2.2.2.2.2.2.2.1 h2)
theorem zq_at {Y : ZY} {X : ZX} (ok : zOk Y X) {n d : String} (h : vx_Zq Jvm.Bundle.tN n d (zA (xD X)) (zs0 (xD X)) (zs0 (xD X)).heap) : vx_Zq Jvm.Bundle.tN n d (zA (xD X)) (xs X) (xs X).heap :=
  vx_Zq.moved ok.2.2.2.2.2.1.2.2.2.2.2.2.2.2.alike (h.kept (fun q hq _ => ok.2.2.2.2.2.2.2.2.2.2.2.2.2.2.1.2 q (Nat.lt_of_lt_of_le hq ok.2.2.2.2.2.2.2.2.2.2.2.2.2.2.1.1)))
section ZTH
variable {β : Type} {Y : ZY} {X : ZX} {kc ks pc : Nat} {lo : List (Option Value)} {st : List Value} {g : ZS} {K : β → Prop}
theorem zva {H : Heap} {locs : List Loc} (ok : zOk Y X) (hR : zR (xD X) (xB X) g H) (hlo : ∀ q ∈ locs, xB X ≤ q.base) (hs : (xs X).heap.size ≤ H.size) : va_S (zA (xD X)) (xs X).heap H locs := by
  have p1 := hR.2.2.2.2.1
  refine ⟨hs, fun q _ hq => ?_, fun l hl => Nat.le_trans p1 (hlo l hl)⟩
  have hq' : q < (zs0 (xD X)).heap.size := Nat.lt_of_not_le hq
  rw [hR.2.2.2.2.2 q (Nat.lt_of_lt_of_le hq' p1), ok.2.2.2.2.2.2.2.2.2.2.2.2.2.2.1.2 q (Nat.lt_of_lt_of_le hq' p1)]
theorem J_throwS {b : β} {n i : Nat} {tx : String} (hst : (xl X).stackTraces = false) (ht : ∀ x ∈ (xc X).exceptionTable.toList, False) (ho : yo Y = RX11) (h1 : Cond.stringRef RX11 n tx ∈ tables_1) (h2 : (zfl narrow_1)[i]? = some (.exactly (.string RX11 n) RJ0)) (d0 : decode (yc Y) (pc) = .ok (.new 164, 3)) (d1 : decode (yc Y) (pc + 3) = .ok (.dup, 1)) (d2 : decode (yc Y) (pc + 4) = .ok (.ldc n, 2)) (d3 : decode (yc Y) (pc + 6) = .ok (.invokespecial 168, 3)) (d4 : decode (yc Y) (pc + 9) = .ok (.athrow, 1)) (hd : 5 < yd Y) (h8 : (st.map fun v => v.category).sum ≤ 8) (hk1 : kc + 1 ≤ yk Y) (hk2 : ks + 6 ≤ yt Y) (hQ : K b → ∀ t, zThr Y X (zthrown g) t → xQ X t) : J Y X kc ks pc lo st g (some b) K := by
  intro ok r hr hK ls H locs cells slots hl hR hlo hc hs
  cases hr
  have ok' := ok
  obtain ⟨o1, o2, o3, o4, o5, o6, o7, o8, o9, o10, o11, o12, o13, o14, o15, o16⟩ := ok'
  obtain ⟨sa, hsa⟩ := zvk o6.2.2.2.2.2.2.2.1 h1 h2
  have hF := o6.2.2.2.2.2.2.2.1
  refine W.imp (hQ hK) ?_
  intro T hT Xs
  refine zx_throwS (A := zA (xD X)) (rest := st) o1 o2 hst (by rw [← ho]; exact o4) (o5 _ w_xk) (o5 _ w_xi) (vk_R.warm o6.2.2.2.2.2.2.2.2 hsa) (zAt_at ok) zAt_ot (zq_at ok (vx_Zqof (zinT hF t_lU) (zinT hF t_iT) (zNa hF 7 (by decide +kernel)) zA_out)) (zq_at ok (vx_Zqof (zinT hF t_lN) (zinT hF t_iT) (zNa hF 8 (by decide +kernel)) zA_out)) (zva ok hR hlo ?_) (hl.1.trans o3.symm) d0 d1 d2 d3 d4 (fun x hx => absurd hx (fun h => ht x h)) (by omega) (by omega) (by omega) (by omega) o7 (fun t _ hz hp => ⟨rfl, zthrown g, rfl, hR.thrown hz hp⟩) hlo (by omega) (by omega) T hT Xs
  have := Xs.same.2.1
  rw [← hT]
  exact this
theorem J_throwW {b : β} {n i : Nat} {tx : String} (hst : (xl X).stackTraces = false) (ht : ∀ x ∈ (xc X).exceptionTable.toList, False) (ho : yo Y = RX11) (h1 : Cond.stringRef RX11 n tx ∈ tables_1) (h2 : (zfl narrow_1)[i]? = some (.exactly (.string RX11 n) RJ0)) (d0 : decode (yc Y) (pc) = .ok (.new 164, 3)) (d1 : decode (yc Y) (pc + 3) = .ok (.dup, 1)) (d2 : decode (yc Y) (pc + 4) = .ok (.ldc_w n, 3)) (d3 : decode (yc Y) (pc + 7) = .ok (.invokespecial 168, 3)) (d4 : decode (yc Y) (pc + 10) = .ok (.athrow, 1)) (hd : 5 < yd Y) (h8 : (st.map fun v => v.category).sum ≤ 8) (hk1 : kc + 1 ≤ yk Y) (hk2 : ks + 6 ≤ yt Y) (hQ : K b → ∀ t, zThr Y X (zthrown g) t → xQ X t) : J Y X kc ks pc lo st g (some b) K := by
  intro ok r hr hK ls H locs cells slots hl hR hlo hc hs
  cases hr
  have ok' := ok
  obtain ⟨o1, o2, o3, o4, o5, o6, o7, o8, o9, o10, o11, o12, o13, o14, o15, o16⟩ := ok'
  obtain ⟨sa, hsa⟩ := zvk o6.2.2.2.2.2.2.2.1 h1 h2
  have hF := o6.2.2.2.2.2.2.2.1
  refine W.imp (hQ hK) ?_
  intro T hT Xs
  refine zx_throwSW (A := zA (xD X)) (rest := st) o1 o2 hst (by rw [← ho]; exact o4) (o5 _ w_xk) (o5 _ w_xi) (vk_R.warm o6.2.2.2.2.2.2.2.2 hsa) (zAt_at ok) zAt_ot (zq_at ok (vx_Zqof (zinT hF t_lU) (zinT hF t_iT) (zNa hF 7 (by decide +kernel)) zA_out)) (zq_at ok (vx_Zqof (zinT hF t_lN) (zinT hF t_iT) (zNa hF 8 (by decide +kernel)) zA_out)) (zva ok hR hlo ?_) (hl.1.trans o3.symm) d0 d1 d2 d3 d4 (fun x hx => absurd hx (fun h => ht x h)) (by omega) (by omega) (by omega) (by omega) o7 (fun t _ hz hp => ⟨rfl, zthrown g, rfl, hR.thrown hz hp⟩) hlo (by omega) (by omega) T hT Xs
  have := Xs.same.2.1
  rw [← hT]
  exact this
end ZTH
def zCtX (l : Launch) (D : ZD) (B0 : Nat) (y : MethodName) (Yc : ZY) (av : List Value) (g : ZS) (vo : Option (Option Value)) (g' : ZS) : Prop :=
  vx_Met l y (.code y (yc Yc) (yn Yc) (yr Yc) :: ztbl) (zRm Yc) (zPc D B0 av g) (zQ D B0 (fun v1 g1 => vo = some v1 ∧ g1 = g')) (zXC D B0 (fun g1 => vo = none ∧ g1 = g')) (yk Yc) (yt Yc) (fun a => B0 ≤ a)
theorem zCtX_of {δ : Type} {Y : ZY} {lo : List (Option Value)} {g : ZS} {l : Launch} {D : ZD} {B0 : Nat} {y : MethodName} {av : List Value} {tc : Option δ} {vo : δ → Option (Option Value)} {so : δ → ZS} (hst : l.stackTraces = false) (hy : plainName y.cls = true) (ho : yo Y = y.cls) (hlo : lv_args 0 av = zpairs 0 lo) (hlen : (lg_sl av).length ≤ yn Y) (hi : yi Y = false)
    (hJ : ∀ X : ZX, (xl X).stackTraces = false → (∀ x ∈ (xc X).exceptionTable.toList, False) → J Y X 0 0 0 lo [] g tc (fun r => (∀ v, vo r = some v → xK X v (so r)) ∧ (vo r = none → ∀ t, zThr Y X (so r) t → xQ X t))) : ∀ r, tc = some r → zCtX l D B0 y Y av g (vo r) (so r) := by
  intro r hr
  refine vx_ofW (cc := yc Y) (maxL := yn Y) (ret := yr Y) hy rfl ?_
  intro p e s m args below meth c s₁ B hml ht hv
  obtain ⟨rfl, hR, hK, hB⟩ := hv
  have hts := atoms_spec (ws := .code y (yc Y) (yn Y) (yr Y) :: ztbl) B.pre
  have hown : s.vm.findClass y.cls = some m.cls := findClass_of_methodNamed B.named
  have hl := lv_entry av (n := yn Y) hlen
  rw [lg_entry_eq]
  generalize (lg_sl av ++ List.replicate (yn Y - (lg_sl av).length) Slot.unset).toArray = ls at hl ⊢
  rw [hlo] at hl
  exact hJ (p, l, e, _, s, m, _, below, meth, c, (fun v1 g1 => vo r = some v1 ∧ g1 = so r), D, B0, _) hst ht ⟨B.exec, B.bytes, hml, by rw [ho]; exact hown, fun w hw => hts w (List.mem_cons_of_mem _ hw), hK, B.notSynchronized, B.returns, fun h => (by rw [hi] at h; cases h), Nat.le_refl _, Nat.le_refl _, Nat.le_refl _, Nat.le_refl _, hB, hR.2.2.2.2, fun t ⟨o, b1, b2, b3, b4⟩ => ⟨o, b1, b2, Or.inl ⟨b3, b4⟩⟩⟩ r hr
    ⟨fun v h => ⟨h, rfl⟩, fun h t ⟨o, b1, b2, b3⟩ => ⟨o, b1, b2, b3.elim (fun z => absurd z.1 id) (fun ⟨q, e1, E, ce, L, ⟨x1, g1, x2, x3⟩, x4⟩ => Or.inr ⟨q, e1, E, ce, L, ⟨x1, g1, ⟨h, x2⟩, x3⟩, x4⟩)⟩⟩ ls s.heap [] 0 0 hl hR (fun _ h => by cases h) (Nat.le_refl _) (Nat.le_refl _)
