def zCtW (l : Launch) (D : ZD) (B0 : Nat) (y : MethodName) (Yc : ZY) (hh : List (Nat × Nat × Nat × Nat)) (av : List Value) (g : ZS) (v : Option Value) (g' : ZS) : Prop :=
  Met l y (.codeWith y (yc Yc) (yn Yc) (yr Yc) hh :: ztbl) (zRm Yc) (zPc D B0 av g) (zQ D B0 (fun v1 g1 => v1 = v ∧ g1 = g')) (yk Yc) (yt Yc) (fun a => B0 ≤ a)
theorem zMet_of {l : Launch} {y : MethodName} {ws : List Cond} {rm : Room} {Pc : Array Value → State → Prop} {Qc : Array Value → State → Outcome → State → Prop} {mc ms : Nat} {free : Addr → Prop} (h : vx_Met l y ws rm Pc Qc (fun _ _ _ => False) mc ms free) : Met l y ws rm Pc Qc mc ms free := by
  intro p e h1 h2 h3 s m args below h4 h5 h6 h7
  obtain ⟨n, o, q1, q2, q3, q4⟩ := h p e h1 h2 h3 s m args below h4 h5 h6 h7
  refine ⟨n, o, q1, q2, q3, ?_⟩
  rcases q4 with q4 | ⟨q, -, E, ce, L, z, -⟩
  · exact q4
  · exact absurd z id
theorem zCtW_of {δ : Type} {Y : ZY} {lo : List (Option Value)} {g : ZS} {l : Launch} {D : ZD} {B0 : Nat} {y : MethodName} {hh : List (Nat × Nat × Nat × Nat)} {av : List Value} {tc : Option δ} {vo : δ → Option Value} {so : δ → ZS} (hst : l.stackTraces = false) (hy : plainName y.cls = true) (ho : yo Y = y.cls) (hlo : lv_args 0 av = zpairs 0 lo) (hlen : (lg_sl av).length ≤ yn Y) (hi : yi Y = false)
    (hJ : ∀ X : ZX, (xl X).stackTraces = false → (xc X).exceptionTable.toList = tableOf hh → J Y X 0 0 0 lo [] g tc (fun r => xK X (vo r) (so r))) : ∀ r, tc = some r → zCtW l D B0 y Y hh av g (vo r) (so r) := by
  intro r hr
  refine zMet_of (vx_ofWH (cc := yc Y) (maxL := yn Y) (ret := yr Y) (hh := hh) hy rfl ?_)
  intro p e s m args below meth c s₁ B hml hv
  obtain ⟨rfl, hR, hK, hB⟩ := hv
  have hts := atoms_spec (ws := .codeWith y (yc Y) (yn Y) (yr Y) hh :: ztbl) B.pre
  have htab := vx_table (x := y) B (hts _ List.mem_cons_self)
  have hown : s.vm.findClass y.cls = some m.cls := findClass_of_methodNamed B.named
  have hl := lv_entry av (n := yn Y) hlen
  rw [lg_entry_eq]
  generalize (lg_sl av ++ List.replicate (yn Y - (lg_sl av).length) Slot.unset).toArray = ls at hl ⊢
  rw [hlo] at hl
  exact hJ (p, l, e, _, s, m, _, below, meth, c, (fun v1 g1 => v1 = vo r ∧ g1 = so r), D, B0, _) hst htab ⟨B.exec, B.bytes, hml, by rw [ho]; exact hown, fun w hw => hts w (List.mem_cons_of_mem _ hw), hK, B.notSynchronized, B.returns, fun h => (by rw [hi] at h; cases h), Nat.le_refl _, Nat.le_refl _, Nat.le_refl _, Nat.le_refl _, hB, hR.2.2.2.2, fun t ⟨o, b1, b2, b3, b4⟩ => ⟨o, b1, b2, Or.inl ⟨b3, b4⟩⟩⟩ r hr ⟨rfl, rfl⟩ ls s.heap [] 0 0 hl hR (fun _ h => by cases h) (Nat.le_refl _) (Nat.le_refl _)
section ZCA
variable {β : Type} {Y : ZY} {X : ZX} {kc ks pc pc' : Nat} {lo : List (Option Value)} {st : List Value} {g : ZS} {t : Option β} {K : β → Prop}
theorem J_callVX {δ : Type} {idx n ci a hpc : Nat} {q : vw_C} {y : MethodName} {Yc : ZY} {av : List Value} {tc : Option (Option δ × ZS)} (vi : δ → Value) {k : Option δ × ZS → Option β} {st0 : List Value} (xe : ExceptionTableEntry) (htab : (xc X).exceptionTable.toList = [xe]) (hcov : covers xe pc = true) (hct : xe.catchType = 13) (hhp : xe.handlerPc = hpc) (ho : yo Y = RL)
    (d : Dc Y pc (.invokevirtual idx) 3 pc') (hl1 : Cond.methodLink (yo Y) idx y ∈ ztbl) (hin : Cond.instanceMethod y ∈ ztbl) (hcl : zcl[ci]? = some q) (hse : Cond.selects q.1 y y ∈ ztbl) (hw : zCw y Yc n) (hc : ∀ r, tc = some r → zCtX (xl X) (xD X) (xB X) y Yc (.ref a :: av) g (r.1.map fun v => some (vi v)) r.2) (hst : st0 = av.reverse ++ .ref a :: st) (hn : av.length = n) (hd : yd Yc + 1 ≤ yd Y) (h8 : (st.map fun v => v.category).sum ≤ 8) (h1 : kc + yk Yc ≤ yk Y) (h2 : ks + yt Yc ≤ yt Y)
    (hk1 : ∀ v g1, J Y X (kc + yk Yc) (ks + yt Yc) pc' lo (vi v :: st) g1 (k (some v, g1)) K)
    (hk2 : ∀ g1 z, J Y X (kc + yk Yc) (ks + yt Yc) hpc lo [.ref z] g1 (k (none, g1)) K) : J Y X kc ks pc lo st0 g (zvs g a ci (tc.bind k)) K := by
  intro ok r hr hK ls H locs cells slots hl hR hlo hcc hss
  obtain ⟨d1, d2⟩ := d
  subst d2
  unfold zvs at hr
  by_cases hs : zsh g a = some (ci, 0)
  · rw [if_pos hs] at hr
    obtain ⟨rc, hrc, hr⟩ := zbind hr
    obtain ⟨w1, w2, w3, w4⟩ := hw
    have ok' := ok
    obtain ⟨o1, o2, o3, o4, o5, o6, o7, o8, o9, o10, o11, o12, o13, o14⟩ := ok'
    obtain ⟨cell, q1, q2, q3, q4⟩ := zC_obj (hR.2.1 a _ hs) (zfit ci q hcl)
    obtain ⟨-, hfc, -⟩ := o6.1 ci q hcl
    have hrun := vx_runV (p := xp X) (l := xl X) (R := xR X) (s := xs X) (m := xm X) (args := xa X) (c := xc X) (H := H) (locs := locs) (cells := cells) (slots := slots) (e := X.2.2.1) (below := xb X) (meth := xh X) (g := F0 (xm X) pc ls st0) (rest := st) (Ts := ztbl) (As := av) (own := yo Y) (index := idx) (n := n) (C := q.1) ⟨o1, o2, o3, o4, o5⟩ (hc rc hrc) ⟨callB_of n o5 (zgood ⟨w1, w2, w3, w4⟩) rfl rfl rfl (o5 _ w1) (o5 _ hl1) w3 ⟨by show yd Yc + 1 ≤ _; omega, by show 8 + (yn Yc + 11) + 64 * yd Yc ≤ _; omega⟩, o5 _ hin, o5 _ hse⟩ ⟨zPc.blind, ⟨cell, q1, by rw [q3]; rfl, by rw [q2]; exact hfc⟩, zPc.pre o6 hR⟩ rfl hn hl.1 hst (lv_room h8) d1 ⟨by omega, by omega⟩
    intro T hT Xs
    rcases hrun T hT Xs with ⟨v1, st₀, t, T', L, e0, X', hL, e1, e2, ⟨v2, g2, hv, ⟨hv1, hg1⟩, hR2⟩, step⟩ | ⟨z, st₀, t, T', L, E, ce, e0, X', hL, e1, e2, ⟨rfl, g2, ⟨hv1, hg1⟩, hR2⟩, e3, e4, e5, step⟩
    · cases hv
      subst hg1
      have hlo' : ∀ q ∈ locs ++ L, xB X ≤ q.base := fun q hq => by
        rcases List.mem_append.mp hq with h | h
        · exact hlo q h
        · exact hL q h
      obtain ⟨ro, rg⟩ := rc
      cases ro with
      | none => cases hv1
      | some v =>
        cases hv1
        obtain ⟨t2, a1, b1⟩ := hk1 v rg ok r hr hK ls T'.heap (locs ++ L) (cells + yk Yc) (slots + yt Yc) hl (by rw [e1]; exact hR2) hlo' (by omega) (by omega) T' rfl X'
        exact ⟨t2, step t2 a1, b1⟩
    · subst hg1
      have hlo' : ∀ q ∈ locs ++ L, xB X ≤ q.base := fun q hq => by
        rcases List.mem_append.mp hq with h | h
        · exact hlo q h
        · exact hL q h
      obtain ⟨ro, rg⟩ := rc
      cases ro with
      | some v => cases hv1
      | none =>
        have hw1 := hk2 rg z ok r hr hK ls T'.heap (locs ++ L) (cells + yk Yc) (slots + yt Yc) hl (by rw [e1]; exact hR2) hlo' (by omega) (by omega)
        have hcast : (Cond.castable RNS RNS).before (xa X) (xs X) = true := zmv_at o6.2.2.2.2.2.2.2.2 rfl (zinT o6.2.2.2.2.2.2.2.1 t_cc)
        have hw2 := vx_catch (H := T'.heap) (ls := ls) (rest := st) (pc := pc) (own := RL) (name := RNS) (E := RNS) (ce := ce) (q := z) (by rw [← ho]; exact o4) [] xe [] htab (fun _ h => by cases h) hcov (by rw [hct]; decide) (by rw [hct]; exact o5 _ w_xl) hcast (by rw [e1]; exact e3) e4 e5 (by rw [hhp]; exact hw1)
        obtain ⟨t2, a1, b1⟩ := hw2 T' rfl X'
        exact ⟨t2, step.trans a1, b1⟩
  · rw [if_neg hs] at hr; cases hr
end ZCA
abbrev Y_L_parrot : ZY := (cL_parrot, 5, RL, some .int, false, 7, 1, 6)
theorem w_m_RL_7 : Cond.methodLink RL 7 yX11_parrot ∈ ztbl := zwt5 78 (by decide +kernel) gd_methodLink
def f_L_parrot (N : Nat) (x0 : Nat) (x1 : Int32) (x2 : Int32) (x3 : Nat) (g : ZS) : Option (Int32 × ZS) :=
  zvs g x0 11 <| (f_X11_parrot N x0 x1 x2 g).bind fun r => match r with
  | (some v, g1) => (zlast g1 x3 (0 : Int32) v.toInt64).bind fun g2 => some ((0 : Int32), g2)
  | (none, g1) => some ((1 : Int32), g1)
theorem j_L_parrot {X : ZX} (hst : (xl X).stackTraces = false) (htab : (xc X).exceptionTable.toList = tableOf [(0, 10, 13, 13)]) (N : Nat) (x0 : Nat) (x1 : Int32) (x2 : Int32) (x3 : Nat) (g : ZS) {K : (Int32 × ZS) → Prop} (h0 : ∀ v g, K (v, g) → xK X (some (.int v)) g) : J Y_L_parrot X 0 0 0 [some (.ref x0), some (.int x1), some (.int x2), some (.ref x3), none] [] g (f_L_parrot N x0 x1 x2 x3 g) K := by
  unfold f_L_parrot
  refine J_aload_n rfl rfl (show Dc Y_L_parrot 0 (.aload_n 3) 1 1 from ⟨by decide +kernel, rfl⟩) ?_
  refine J_iconst 0 rfl (show Dc Y_L_parrot 1 (.iconst 0) 1 2 from ⟨by decide +kernel, rfl⟩) ?_
  refine J_aload_n rfl rfl (show Dc Y_L_parrot 2 (.aload_n 0) 1 3 from ⟨by decide +kernel, rfl⟩) ?_
  refine J_iload_n rfl rfl (show Dc Y_L_parrot 3 (.iload_n 1) 1 4 from ⟨by decide +kernel, rfl⟩) ?_
  refine J_iload_n rfl rfl (show Dc Y_L_parrot 4 (.iload_n 2) 1 5 from ⟨by decide +kernel, rfl⟩) ?_
  refine J_callVX (fun v => .int v) (hpc := 13) (k := fun r => match r with
    | (some v, g1) => (zlast g1 x3 (0 : Int32) v.toInt64).bind fun g2 => some ((0 : Int32), g2)
    | (none, g1) => some ((1 : Int32), g1)) _ htab (by decide) rfl rfl rfl (show Dc Y_L_parrot 5 (.invokevirtual 7) 3 8 from ⟨by decide +kernel, rfl⟩) w_m_RL_7 w_in_X11_parrot rfl w_se_X11_parrot w_cw_X11_parrot (c_X11_parrot hst N x0 x1 x2 g) rfl rfl (by decide) (Nat.le_of_ble_eq_true rfl) (by decide) (by decide) (fun v g1 => ?_) (fun g1 z => ?_)
  · refine J_i2l (show Dc Y_L_parrot 8 (.i2l) 1 9 from ⟨by decide +kernel, rfl⟩) ?_
    refine J_last (show Dc Y_L_parrot 9 (.lastore) 1 10 from ⟨by decide +kernel, rfl⟩) (fun g2 => ?_)
    refine J_goto (show Dc Y_L_parrot 10 (.goto 7) 3 13 from ⟨by decide +kernel, rfl⟩) rfl ?_
    refine J_iconst 0 rfl (show Dc Y_L_parrot 17 (.iconst 0) 1 18 from ⟨by decide +kernel, rfl⟩) ?_
    exact J_reti (show Dc Y_L_parrot 18 (.ireturn) 1 19 from ⟨by decide +kernel, rfl⟩) rfl (h0 _ _) (by decide) (by decide)
  · refine J_astore _ (show Dc Y_L_parrot 13 (.astore 4) 2 15 from ⟨by decide +kernel, rfl⟩) (by decide) (by rfl) rfl ?_
    refine J_iconst 1 rfl (show Dc Y_L_parrot 15 (.iconst 1) 1 16 from ⟨by decide +kernel, rfl⟩) ?_
    exact J_reti (show Dc Y_L_parrot 16 (.ireturn) 1 17 from ⟨by decide +kernel, rfl⟩) rfl (h0 _ _) (by decide) (by decide)
theorem c_L_parrot {l : Launch} (hl : l.stackTraces = false) {D : ZD} {B0 : Nat} (N : Nat) (x0 : Nat) (x1 : Int32) (x2 : Int32) (x3 : Nat) (g : ZS) : ∀ r, f_L_parrot N x0 x1 x2 x3 g = some r → zCtW l D B0 yL_parrot Y_L_parrot [(0, 10, 13, 13)] [.ref x0, .int x1, .int x2, .ref x3] g (some (.int r.1)) r.2 :=
  zCtW_of (vo := fun r => some (.int r.1)) (so := fun r => r.2) hl (by decide +kernel) rfl rfl (Nat.le_of_ble_eq_true rfl) rfl (fun X hst ht => j_L_parrot hst ht N x0 x1 x2 x3 g (fun _ _ h => h))
abbrev Y_L_word : ZY := (cL_word, 6, RL, some .int, false, 7, 1, 6)
theorem w_m_RL_15 : Cond.methodLink RL 15 yX11_word ∈ ztbl := zwt5 151 (by decide +kernel) gd_methodLink
def f_L_word (N : Nat) (x0 : Nat) (x1 : Int32) (x2 : Int32) (x3 : Int32) (x4 : Nat) (g : ZS) : Option (Int32 × ZS) :=
  zvs g x0 11 <| (f_X11_word N x0 x1 x2 x3 g).bind fun r => match r with
  | (some v, g1) => (zlast g1 x4 (0 : Int32) v.toInt64).bind fun g2 => some ((0 : Int32), g2)
  | (none, g1) => some ((1 : Int32), g1)
theorem j_L_word {X : ZX} (hst : (xl X).stackTraces = false) (htab : (xc X).exceptionTable.toList = tableOf [(0, 12, 15, 13)]) (N : Nat) (x0 : Nat) (x1 : Int32) (x2 : Int32) (x3 : Int32) (x4 : Nat) (g : ZS) {K : (Int32 × ZS) → Prop} (h0 : ∀ v g, K (v, g) → xK X (some (.int v)) g) : J Y_L_word X 0 0 0 [some (.ref x0), some (.int x1), some (.int x2), some (.int x3), some (.ref x4), none] [] g (f_L_word N x0 x1 x2 x3 x4 g) K := by
  unfold f_L_word
  refine J_aload rfl (show Dc Y_L_word 0 (.aload 4) 2 2 from ⟨by decide +kernel, rfl⟩) ?_
  refine J_iconst 0 rfl (show Dc Y_L_word 2 (.iconst 0) 1 3 from ⟨by decide +kernel, rfl⟩) ?_
  refine J_aload_n rfl rfl (show Dc Y_L_word 3 (.aload_n 0) 1 4 from ⟨by decide +kernel, rfl⟩) ?_
  refine J_iload_n rfl rfl (show Dc Y_L_word 4 (.iload_n 1) 1 5 from ⟨by decide +kernel, rfl⟩) ?_
  refine J_iload_n rfl rfl (show Dc Y_L_word 5 (.iload_n 2) 1 6 from ⟨by decide +kernel, rfl⟩) ?_
  refine J_iload_n rfl rfl (show Dc Y_L_word 6 (.iload_n 3) 1 7 from ⟨by decide +kernel, rfl⟩) ?_
  refine J_callVX (fun v => .int v) (hpc := 15) (k := fun r => match r with
    | (some v, g1) => (zlast g1 x4 (0 : Int32) v.toInt64).bind fun g2 => some ((0 : Int32), g2)
    | (none, g1) => some ((1 : Int32), g1)) _ htab (by decide) rfl rfl rfl (show Dc Y_L_word 7 (.invokevirtual 15) 3 10 from ⟨by decide +kernel, rfl⟩) w_m_RL_15 w_in_X11_word rfl w_se_X11_word w_cw_X11_word (c_X11_word hst N x0 x1 x2 x3 g) rfl rfl (by decide) (Nat.le_of_ble_eq_true rfl) (by decide) (by decide) (fun v g1 => ?_) (fun g1 z => ?_)
  · refine J_i2l (show Dc Y_L_word 10 (.i2l) 1 11 from ⟨by decide +kernel, rfl⟩) ?_
    refine J_last (show Dc Y_L_word 11 (.lastore) 1 12 from ⟨by decide +kernel, rfl⟩) (fun g2 => ?_)
    refine J_goto (show Dc Y_L_word 12 (.goto 7) 3 15 from ⟨by decide +kernel, rfl⟩) rfl ?_
    refine J_iconst 0 rfl (show Dc Y_L_word 19 (.iconst 0) 1 20 from ⟨by decide +kernel, rfl⟩) ?_
    exact J_reti (show Dc Y_L_word 20 (.ireturn) 1 21 from ⟨by decide +kernel, rfl⟩) rfl (h0 _ _) (by decide) (by decide)
  · refine J_astore _ (show Dc Y_L_word 15 (.astore 5) 2 17 from ⟨by decide +kernel, rfl⟩) (by decide) (by rfl) rfl ?_
    refine J_iconst 1 rfl (show Dc Y_L_word 17 (.iconst 1) 1 18 from ⟨by decide +kernel, rfl⟩) ?_
    exact J_reti (show Dc Y_L_word 18 (.ireturn) 1 19 from ⟨by decide +kernel, rfl⟩) rfl (h0 _ _) (by decide) (by decide)
theorem c_L_word {l : Launch} (hl : l.stackTraces = false) {D : ZD} {B0 : Nat} (N : Nat) (x0 : Nat) (x1 : Int32) (x2 : Int32) (x3 : Int32) (x4 : Nat) (g : ZS) : ∀ r, f_L_word N x0 x1 x2 x3 x4 g = some r → zCtW l D B0 yL_word Y_L_word [(0, 12, 15, 13)] [.ref x0, .int x1, .int x2, .int x3, .ref x4] g (some (.int r.1)) r.2 :=
  zCtW_of (vo := fun r => some (.int r.1)) (so := fun r => r.2) hl (by decide +kernel) rfl rfl (Nat.le_of_ble_eq_true rfl) rfl (fun X hst ht => j_L_word hst ht N x0 x1 x2 x3 x4 g (fun _ _ h => h))
abbrev Y_L_row : ZY := (cL_row, 4, RL, some .int, false, 7, 1, 6)
theorem w_m_RL_19 : Cond.methodLink RL 19 yX11_row ∈ ztbl := zwt5 161 (by decide +kernel) gd_methodLink
def f_L_row (N : Nat) (x0 : Nat) (x1 : Int32) (x2 : Nat) (g : ZS) : Option (Int32 × ZS) :=
  zvs g x0 11 <| (f_X11_row x0 x1 g).bind fun r => match r with
  | (some v, g1) => (zlast g1 x2 (0 : Int32) v).bind fun g2 => some ((0 : Int32), g2)
  | (none, g1) => some ((1 : Int32), g1)
theorem j_L_row {X : ZX} (hst : (xl X).stackTraces = false) (htab : (xc X).exceptionTable.toList = tableOf [(0, 8, 11, 13)]) (N : Nat) (x0 : Nat) (x1 : Int32) (x2 : Nat) (g : ZS) {K : (Int32 × ZS) → Prop} (h0 : ∀ v g, K (v, g) → xK X (some (.int v)) g) : J Y_L_row X 0 0 0 [some (.ref x0), some (.int x1), some (.ref x2), none] [] g (f_L_row N x0 x1 x2 g) K := by
  unfold f_L_row
  refine J_aload_n rfl rfl (show Dc Y_L_row 0 (.aload_n 2) 1 1 from ⟨by decide +kernel, rfl⟩) ?_
  refine J_iconst 0 rfl (show Dc Y_L_row 1 (.iconst 0) 1 2 from ⟨by decide +kernel, rfl⟩) ?_
  refine J_aload_n rfl rfl (show Dc Y_L_row 2 (.aload_n 0) 1 3 from ⟨by decide +kernel, rfl⟩) ?_
  refine J_iload_n rfl rfl (show Dc Y_L_row 3 (.iload_n 1) 1 4 from ⟨by decide +kernel, rfl⟩) ?_
  refine J_callVX (fun v => .long v) (hpc := 11) (k := fun r => match r with
    | (some v, g1) => (zlast g1 x2 (0 : Int32) v).bind fun g2 => some ((0 : Int32), g2)
    | (none, g1) => some ((1 : Int32), g1)) _ htab (by decide) rfl rfl rfl (show Dc Y_L_row 4 (.invokevirtual 19) 3 7 from ⟨by decide +kernel, rfl⟩) w_m_RL_19 w_in_X11_row rfl w_se_X11_row w_cw_X11_row (c_X11_row hst x0 x1 g) rfl rfl (by decide) (Nat.le_of_ble_eq_true rfl) (by decide) (by decide) (fun v g1 => ?_) (fun g1 z => ?_)
  · refine J_last (show Dc Y_L_row 7 (.lastore) 1 8 from ⟨by decide +kernel, rfl⟩) (fun g2 => ?_)
    refine J_goto (show Dc Y_L_row 8 (.goto 6) 3 11 from ⟨by decide +kernel, rfl⟩) rfl ?_
    refine J_iconst 0 rfl (show Dc Y_L_row 14 (.iconst 0) 1 15 from ⟨by decide +kernel, rfl⟩) ?_
    exact J_reti (show Dc Y_L_row 15 (.ireturn) 1 16 from ⟨by decide +kernel, rfl⟩) rfl (h0 _ _) (by decide) (by decide)
  · refine J_astore_n _ (show Dc Y_L_row 11 (.astore_n 3) 1 12 from ⟨by decide +kernel, rfl⟩) rfl (by decide) (by rfl) rfl ?_
    refine J_iconst 1 rfl (show Dc Y_L_row 12 (.iconst 1) 1 13 from ⟨by decide +kernel, rfl⟩) ?_
    exact J_reti (show Dc Y_L_row 13 (.ireturn) 1 14 from ⟨by decide +kernel, rfl⟩) rfl (h0 _ _) (by decide) (by decide)
theorem c_L_row {l : Launch} (hl : l.stackTraces = false) {D : ZD} {B0 : Nat} (N : Nat) (x0 : Nat) (x1 : Int32) (x2 : Nat) (g : ZS) : ∀ r, f_L_row N x0 x1 x2 g = some r → zCtW l D B0 yL_row Y_L_row [(0, 8, 11, 13)] [.ref x0, .int x1, .ref x2] g (some (.int r.1)) r.2 :=
  zCtW_of (vo := fun r => some (.int r.1)) (so := fun r => r.2) hl (by decide +kernel) rfl rfl (Nat.le_of_ble_eq_true rfl) rfl (fun X hst ht => j_L_row hst ht N x0 x1 x2 g (fun _ _ h => h))
