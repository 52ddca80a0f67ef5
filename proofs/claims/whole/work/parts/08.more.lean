/-! ===== more calls, entries, switches ===== -/
section ZD1
variable {β : Type} {Y : ZY} {X : ZX} {kc ks pc pc' : Nat} {lo : List (Option Value)} {st : List Value} {g : ZS} {t : Option β} {K : β → Prop}
/-- a receiver is of its class -/
def zvs {γ : Type} (g : ZS) (a ci : Nat) (t : Option γ) : Option γ := if zsh g a = some (ci, 0) then t else none
theorem zPc.pre {H : Heap} {av : List Value} (o6 : zK (xD X) (xs X)) (hR : zR (xD X) (xB X) g H) : ∀ U : State, U.heap = H → (xs X).WarmedH U.vm → zPc (xD X) (xB X) av g av.toArray U := fun U hU hW => ⟨rfl, by rw [hU]; exact hR, o6.moved hW, by rw [hU, hR.1]; exact hR.2.2.2.1⟩
theorem J_callV {δ : Type} {idx n ci a : Nat} {q : vw_C} {y : MethodName} {Yc : ZY} {av : List Value} {tc : Option δ} {vo : δ → Option Value} {so : δ → ZS} {k : δ → Option β} {st0 : List Value} (d : Dc Y pc (.invokevirtual idx) 3 pc') (hl1 : Cond.methodLink (yo Y) idx y ∈ ztbl) (hin : Cond.instanceMethod y ∈ ztbl) (hcl : zcl[ci]? = some q) (hse : Cond.selects q.1 y y ∈ ztbl) (hw : zCw y Yc n) (hc : ∀ r, tc = some r → zCt (xl X) (xD X) (xB X) y Yc (.ref a :: av) g (vo r) (so r)) (hst : st0 = av.reverse ++ .ref a :: st) (hn : av.length = n) (hd : yd Yc + 1 ≤ yd Y) (h8 : (st.map fun v => v.category).sum ≤ 8) (h1 : kc + yk Yc ≤ yk Y) (h2 : ks + yt Yc ≤ yt Y)
    (hk : ∀ r, tc = some r → J Y X (kc + yk Yc) (ks + yt Yc) pc' lo ((vo r).toList ++ st) (so r) (k r) K) : J Y X kc ks pc lo st0 g (zvs g a ci (tc.bind k)) K := by
  intro ok r hr hK ls H locs cells slots hl hR hlo hcc hss
  obtain ⟨d1, d2⟩ := d
  subst d2
  unfold zvs at hr
  by_cases hs : zsh g a = some (ci, 0)
  · rw [if_pos hs] at hr
    obtain ⟨rc, hrc, hr⟩ := zbind hr
    obtain ⟨w1, w2, w3, w4⟩ := hw
    have ok' := ok
    obtain ⟨o1, o2, o3, o4, o5, o6, o7, o8, o9, o10, o11, o12, o13, o14⟩ := ok'
    obtain ⟨cell, q1, q2, q3, q4⟩ := zC_obj (hR.2.1 a _ hs) (zfit ci q hcl)
    obtain ⟨-, hfc, -⟩ := o6.1 ci q hcl
    exact zafter (Y := Y) (Yc := Yc) (a := (Value.ref a :: av).toArray) (v := vo rc) (g' := so rc) hl hlo (va_runV (Ts := ztbl) (As := av) (own := yo Y) (index := idx) (n := n) (C := q.1) ⟨o1, o2, o3, o4, o5⟩ (hc rc hrc) ⟨callB_of n o5 (zgood ⟨w1, w2, w3, w4⟩) rfl rfl rfl (o5 _ w1) (o5 _ hl1) w3 ⟨by show yd Yc + 1 ≤ _; omega, by show 8 + (yn Yc + 11) + 64 * yd Yc ≤ _; omega⟩, o5 _ hin, o5 _ hse⟩ ⟨zPc.blind, ⟨cell, q1, by rw [q3]; rfl, by rw [q2]; exact hfc⟩, zPc.pre o6 hR⟩ rfl hn hl.1 hst (lv_room h8) d1 ⟨by omega, by omega⟩) (fun H' locs' hR' hlo' => hk rc hrc ok r hr hK ls H' locs' _ _ hl hR' hlo' (by omega) (by omega))
  · rw [if_neg hs] at hr; cases hr
theorem J_callI {δ : Type} {idx n a : Nat} {y : MethodName} {Yc : ZY} {av : List Value} {tc : Option δ} {so : δ → ZS} {k : δ → Option β} {st0 : List Value} (d : Dc Y pc (.invokespecial idx) 3 pc') (hl1 : Cond.methodLink (yo Y) idx y ∈ ztbl) (hin : Cond.instanceMethod y ∈ ztbl) (hy1 : y.name = "<init>") (hr0 : yr Yc = none) (hw : zCw y Yc n) (hc : ∀ r, tc = some r → zCt (xl X) (xD X) (xB X) y Yc (.ref a :: av) g none (so r)) (hst : st0 = av.reverse ++ .ref a :: st) (hn : av.length = n) (hd : yd Yc + 1 ≤ yd Y) (h8 : (st.map fun v => v.category).sum ≤ 8) (h1 : kc + yk Yc ≤ yk Y) (h2 : ks + yt Yc ≤ yt Y)
    (hk : ∀ r, tc = some r → J Y X (kc + yk Yc) (ks + yt Yc) pc' lo st (so r) (k r) K) : J Y X kc ks pc lo st0 g (tc.bind k) K := by
  intro ok r hr hK ls H locs cells slots hl hR hlo hcc hss
  obtain ⟨d1, d2⟩ := d
  subst d2
  obtain ⟨rc, hrc, hr⟩ := zbind hr
  obtain ⟨w1, w2, w3, w4⟩ := hw
  have ok' := ok
  obtain ⟨o1, o2, o3, o4, o5, o6, o7, o8, o9, o10, o11, o12, o13, o14⟩ := ok'
  have hM := hc rc hrc
  have hg := zgood ⟨w1, w2, w3, w4⟩
  unfold zCt at hM
  rw [hr0] at hM hg
  exact zafter (Y := Y) (Yc := Yc) (a := (Value.ref a :: av).toArray) (v := none) (g' := so rc) hl hlo (va_runI (Ts := ztbl) (As := av) (own := yo Y) (index := idx) (n := n) ⟨o1, o2, o3, o4, o5⟩ hM ⟨callB_of n o5 hg rfl rfl rfl (o5 _ w1) (o5 _ hl1) w3 ⟨by show yd Yc + 1 ≤ _; omega, by show 8 + (yn Yc + 11) + 64 * yd Yc ≤ _; omega⟩, hy1, o5 _ hin⟩ ⟨zPc.blind, zPc.pre o6 hR⟩ rfl hn hl.1 hst (lv_room h8) d1 ⟨by omega, by omega⟩) (fun H' locs' hR' hlo' => hk rc hrc ok r hr hK ls H' locs' _ _ hl hR' hlo' (by omega) (by omega))
theorem J_callIN {δ : Type} {idx n a : Nat} {host : String} {y : MethodName} {Yc : ZY} {av : List Value} {tc : Option δ} {so : δ → ZS} {k : δ → Option β} {st0 : List Value} (d : Dc Y pc (.invokespecial idx) 3 pc') (hl1 : (yo Y, idx, y, host) ∈ znest) (hin : Cond.instanceMethod y ∈ ztbl) (hy1 : y.name = "<init>") (hr0 : yr Yc = none) (hw : zCw y Yc n) (hc : ∀ r, tc = some r → zCt (xl X) (xD X) (xB X) y Yc (.ref a :: av) g none (so r)) (hst : st0 = av.reverse ++ .ref a :: st) (hn : av.length = n) (hd : yd Yc + 1 ≤ yd Y) (h8 : (st.map fun v => v.category).sum ≤ 8) (h1 : kc + yk Yc ≤ yk Y) (h2 : ks + yt Yc ≤ yt Y)
    (hk : ∀ r, tc = some r → J Y X (kc + yk Yc) (ks + yt Yc) pc' lo st (so r) (k r) K) : J Y X kc ks pc lo st0 g (tc.bind k) K := by
  intro ok r hr hK ls H locs cells slots hl hR hlo hcc hss
  obtain ⟨d1, d2⟩ := d
  subst d2
  obtain ⟨rc, hrc, hr⟩ := zbind hr
  obtain ⟨w1, w2, w3, w4⟩ := hw
  have ok' := ok
  obtain ⟨o1, o2, o3, o4, o5, o6, o7, o8, o9, o10, o11, o12, o13, o14⟩ := ok'
  have hM := hc rc hrc
  have hg := zgood ⟨w1, w2, w3, w4⟩
  unfold zCt at hM
  rw [hr0] at hM hg
  exact zafter (Y := Y) (Yc := Yc) (a := (Value.ref a :: av).toArray) (v := none) (g' := so rc) hl hlo (va_runIN (Ts := ztbl) (As := av) (own := yo Y) (index := idx) (n := n) ⟨o1, o2, o3, o4, o5⟩ hM ⟨va_cnB n o5 hg rfl rfl rfl (o6.2.2.2.1 _ hl1) (o5 _ w1) w3 ⟨by show yd Yc + 1 ≤ _; omega, by show 8 + (yn Yc + 11) + 64 * yd Yc ≤ _; omega⟩, hy1, o5 _ hin⟩ ⟨zPc.blind, zPc.pre o6 hR⟩ rfl hn hl.1 hst (lv_room h8) d1 ⟨by omega, by omega⟩) (fun H' locs' hR' hlo' => hk rc hrc ok r hr hK ls H' locs' _ _ hl hR' hlo' (by omega) (by omega))
theorem J_callSN {δ : Type} {idx n : Nat} {host : String} {y : MethodName} {Yc : ZY} {av : List Value} {tc : Option δ} {vo : δ → Option Value} {so : δ → ZS} {k : δ → Option β} {st0 : List Value} (d : Dc Y pc (.invokestatic idx) 3 pc') (hl1 : (yo Y, idx, y, host) ∈ znest) (hst1 : Cond.static y ∈ ztbl) (hw : zCw y Yc n) (hc : ∀ r, tc = some r → zCt (xl X) (xD X) (xB X) y Yc av g (vo r) (so r)) (hst : st0 = av.reverse ++ st) (hn : av.length = n) (hd : yd Yc + 1 ≤ yd Y) (h8 : (st.map fun v => v.category).sum ≤ 8) (h1 : kc + yk Yc ≤ yk Y) (h2 : ks + yt Yc ≤ yt Y)
    (hk : ∀ r, tc = some r → J Y X (kc + yk Yc) (ks + yt Yc) pc' lo ((vo r).toList ++ st) (so r) (k r) K) : J Y X kc ks pc lo st0 g (tc.bind k) K := by
  intro ok r hr hK ls H locs cells slots hl hR hlo hcc hss
  obtain ⟨d1, d2⟩ := d
  subst d2
  obtain ⟨rc, hrc, hr⟩ := zbind hr
  obtain ⟨w1, w2, w3, w4⟩ := hw
  have ok' := ok
  obtain ⟨o1, o2, o3, o4, o5, o6, o7, o8, o9, o10, o11, o12, o13, o14⟩ := ok'
  exact zafter (Y := Y) (Yc := Yc) (a := av.toArray) (v := vo rc) (g' := so rc) hl hlo (va_runSN (Ts := ztbl) (As := av) (own := yo Y) (index := idx) (n := n) ⟨o1, o2, o3, o4, o5⟩ (hc rc hrc) ⟨va_cnB n o5 (zgood ⟨w1, w2, w3, w4⟩) rfl rfl rfl (o6.2.2.2.1 _ hl1) (o5 _ w1) w3 ⟨by show yd Yc + 1 ≤ _; omega, by show 8 + (yn Yc + 11) + 64 * yd Yc ≤ _; omega⟩, o5 _ hst1, trivial⟩ ⟨zPc.blind, zPc.pre o6 hR⟩ rfl hn hl.1 hst (lv_room h8) d1 ⟨by omega, by omega⟩) (fun H' locs' hR' hlo' => hk rc hrc ok r hr hK ls H' locs' _ _ hl hR' hlo' (by omega) (by omega))
theorem J_objI {idx a : Nat} (d : Dc Y pc (.invokespecial idx) 3 pc') (hl1 : Cond.methodLink (yo Y) idx objectInit ∈ ztbl) (hin : Cond.instanceMethod objectInit ∈ ztbl) (hco : Cond.code objectInit ⟨#[0xb1]⟩ 1 none ∈ ztbl) (hd : 1 ≤ yd Y) (h8 : (st.map fun v => v.category).sum ≤ 8) (k : J Y X kc ks pc' lo st g t K) : J Y X kc ks pc lo (.ref a :: st) g t K := by
  intro ok r hr hK ls H locs cells slots hl hR hlo hcc hss
  obtain ⟨d1, d2⟩ := d
  subst d2
  have ok' := ok
  obtain ⟨o1, o2, o3, o4, o5, o6, o7, o8, o9, o10, o11, o12, o13, o14⟩ := ok'
  exact W.objInit o1 o2 o4 (o5 _ hl1) (o5 _ hin) (o5 _ hco) rfl (by rw [o3]; exact hl.1) rfl d1 (by omega) (by show 2 * 0 + _ + 12 ≤ _; omega) (k ok r hr hK ls H locs cells slots hl hR hlo hcc hss)
/-! entries -/
theorem zCt_of {δ : Type} {l : Launch} {D : ZD} {B0 : Nat} {y : MethodName} {av : List Value} {tc : Option δ} {vo : δ → Option Value} {so : δ → ZS} (hy : plainName y.cls = true) (ho : yo Y = y.cls) (hi : yi Y = true → y.name = "<init>") (hlo : lv_args 0 av = zpairs 0 lo) (hlen : (lg_sl av).length ≤ yn Y) (hJ : ∀ X : ZX, J Y X 0 0 0 lo [] g tc (fun r => xK X (vo r) (so r))) : ∀ r, tc = some r → zCt l D B0 y Y av g (vo r) (so r) := by
  intro r hr
  refine Met.ofW (cc := yc Y) (maxL := yn Y) (ret := yr Y) hy rfl ?_
  intro p e s m args below meth c s₁ B hml hv
  obtain ⟨rfl, hR, hK, hB⟩ := hv
  have hts := atoms_spec (ws := .code y (yc Y) (yn Y) (yr Y) :: ztbl) B.pre
  have hown : s.vm.findClass y.cls = some m.cls := findClass_of_methodNamed B.named
  have hin : meth.name = y.name := (name_of_methodNamed B.named B.method).1
  have hl := lv_entry av (n := yn Y) hlen
  rw [lg_entry_eq]
  generalize (lg_sl av ++ List.replicate (yn Y - (lg_sl av).length) Slot.unset).toArray = ls at hl ⊢
  rw [hlo] at hl
  exact hJ (p, l, e, _, s, m, _, below, meth, c, (fun v1 g1 => v1 = vo r ∧ g1 = so r), D, B0, _) ⟨B.exec, B.bytes, hml, by rw [ho]; exact hown, fun w hw => hts w (List.mem_cons_of_mem _ hw), hK, B.notSynchronized, B.returns, fun h => by show meth.name = _; rw [hin]; exact hi h, Nat.le_refl _, Nat.le_refl _, Nat.le_refl _, Nat.le_refl _, hB, hR.2.2.2.2, fun _ h => h⟩ r hr ⟨rfl, rfl⟩ ls s.heap [] 0 0 hl hR (fun _ h => by cases h) (Nat.le_refl _) (Nat.le_refl _)
/-! switches -/
def zcase {γ : Type} (x : Int32) : List (Int32 × Option γ) → Option γ → Option γ
  | [], td => td
  | c :: cs, td => if x = c.1 then c.2 else zcase x cs td
theorem zcase_spec {γ : Type} (x : Int32) (td : Option γ) : ∀ cs : List (Int32 × Nat × Option γ), (∃ c ∈ cs, x = c.1 ∧ zcase x (cs.map fun c => (c.1, c.2.2)) td = c.2.2) ∨ ((∀ c ∈ cs, x ≠ c.1) ∧ zcase x (cs.map fun c => (c.1, c.2.2)) td = td)
  | [] => Or.inr ⟨fun _ h => (by cases h), rfl⟩
  | c :: cs => by
    by_cases h : x = c.1
    · exact Or.inl ⟨c, List.mem_cons_self, h, by simp [zcase, h]⟩
    · rcases zcase_spec x td cs with ⟨c', h1, h2, h3⟩ | ⟨h1, h2⟩
      · exact Or.inl ⟨c', List.mem_cons_of_mem _ h1, h2, by simp only [List.map_cons, zcase, if_neg h]; exact h3⟩
      · refine Or.inr ⟨fun c' hc' => ?_, by simp only [List.map_cons, zcase, if_neg h]; exact h2⟩
        rcases List.mem_cons.mp hc' with rfl | h4
        · exact h
        · exact h1 c' h4
def ztok (pc : Nat) (dflt l h : Int) (offs : Array Int) (ks : List (Int32 × Nat)) (tgd : Nat) : Bool :=
  ks.all (fun k => decide (¬ k.1.toInt < l) && decide (¬ h < k.1.toInt) && decide ((offs[(k.1.toInt - l).toNat]?).map (fun o => (pc : Int) + o) = some (k.2 : Int))) && decide ((pc : Int) + dflt = (tgd : Int)) &&
  (List.range (h + 1 - l).toNat).all (fun i => ks.any fun k => decide (k.1.toInt = l + (i : Int)))
theorem J_tsw {dflt l h : Int} {offs : Array Int} {len tgd : Nat} {x : Int32} {td : Option β} (cs : List (Int32 × Nat × Option β)) (d : Dc Y pc (.tableswitch dflt l h offs) len pc') (hok : ztok pc dflt l h offs (cs.map fun c => (c.1, c.2.1)) tgd = true) (hk : ∀ c ∈ cs, J Y X kc ks c.2.1 lo st g c.2.2 K) (hd : J Y X kc ks tgd lo st g td K) : J Y X kc ks pc lo (.int x :: st) g (zcase x (cs.map fun c => (c.1, c.2.2)) td) K := by
  intro ok r hr hK ls H locs cells slots hl hR hlo hcc hss
  simp only [ztok, Bool.and_eq_true, List.all_eq_true, List.mem_map, decide_eq_true_eq] at hok
  obtain ⟨⟨hk1, hk2⟩, hk3⟩ := hok
  rcases zcase_spec x td cs with ⟨c, h1, h2, h3⟩ | ⟨h1, h2⟩
  · rw [h3] at hr
    obtain ⟨⟨a1, a2⟩, a3⟩ := hk1 (c.1, c.2.1) ⟨c, h1, rfl⟩
    obtain ⟨off, b1, b2⟩ := Option.map_eq_some_iff.mp a3
    exact lv_tableIn ok.1 ok.2.1 d.1 (by rw [h2]; exact a1) (by rw [h2]; exact a2) (by rw [h2]; exact b1) b2 (hk c h1 ok r hr hK ls H locs cells slots hl hR hlo hcc hss)
  · rw [h2] at hr
    refine lv_tableOut ok.1 ok.2.1 d.1 ?_ hk2 (hd ok r hr hK ls H locs cells slots hl hR hlo hcc hss)
    by_cases hlt : x.toInt < l
    · exact Or.inl hlt
    · refine Or.inr (Int.lt_of_not_ge fun hge => ?_)
      have := hk3 (x.toInt - l).toNat (List.mem_range.mpr (by omega))
      obtain ⟨k, b1, b2⟩ := List.any_eq_true.mp this
      obtain ⟨c, b3, rfl⟩ := List.mem_map.mp b1
      refine h1 c b3 (Int32.toInt_inj.mp ?_)
      have b4 := of_decide_eq_true b2
      have b5 : c.1.toInt = l + (((x.toInt - l).toNat : Nat) : Int) := b4
      omega
theorem zoff {dflt : Int} {x : Int32} {pc : Nat} {td : Option β} : ∀ cs : List (Int32 × Nat × Option β), ((∃ c ∈ cs, x = c.1 ∧ zcase x (cs.map fun c => (c.1, c.2.2)) td = c.2.2 ∧ Op.lookupswitch.offset (cs.map fun c => (c.1.toInt, (c.2.1 : Int) - (pc : Int))) dflt x.toInt = (c.2.1 : Int) - pc)) ∨ (zcase x (cs.map fun c => (c.1, c.2.2)) td = td ∧ Op.lookupswitch.offset (cs.map fun c => (c.1.toInt, (c.2.1 : Int) - (pc : Int))) dflt x.toInt = dflt)
  | [] => Or.inr ⟨rfl, by simp [Op.lookupswitch.offset]⟩
  | c :: cs => by
    by_cases h : x = c.1
    · refine Or.inl ⟨c, List.mem_cons_self, h, by simp [zcase, h], ?_⟩
      rw [List.map_cons, Op.lookupswitch.offset_cons, if_pos (by simp [h])]
    · have e : Op.lookupswitch.offset ((c :: cs).map fun c => (c.1.toInt, (c.2.1 : Int) - (pc : Int))) dflt x.toInt = Op.lookupswitch.offset (cs.map fun c => (c.1.toInt, (c.2.1 : Int) - (pc : Int))) dflt x.toInt := by
        rw [List.map_cons]; exact lv_osw h rfl
      rcases zoff (dflt := dflt) (x := x) (pc := pc) (td := td) cs with ⟨c', h1, h2, h3, h4⟩ | ⟨h1, h2⟩
      · exact Or.inl ⟨c', List.mem_cons_of_mem _ h1, h2, by simp only [List.map_cons, zcase, if_neg h]; exact h3, by rw [e]; exact h4⟩
      · exact Or.inr ⟨by simp only [List.map_cons, zcase, if_neg h]; exact h1, by rw [e]; exact h2⟩
theorem J_lsw {dflt : Int} {ps : Array (Int × Int)} {len tgd : Nat} {x : Int32} {td : Option β} (cs : List (Int32 × Nat × Option β)) (d : Dc Y pc (.lookupswitch dflt ps) len pc') (hp : (ps.toList.zip (ps.toList.drop 1)).all (fun (a, next) => a.1 < next.1) = true) (hps : ps.toList = cs.map fun c => (c.1.toInt, (c.2.1 : Int) - (pc : Int))) (htd : (pc : Int) + dflt = (tgd : Int)) (hk : ∀ c ∈ cs, J Y X kc ks c.2.1 lo st g c.2.2 K) (hd : J Y X kc ks tgd lo st g td K) : J Y X kc ks pc lo (.int x :: st) g (zcase x (cs.map fun c => (c.1, c.2.2)) td) K := by
  intro ok r hr hK ls H locs cells slots hl hR hlo hcc hss
  rcases zoff (dflt := dflt) (x := x) (pc := pc) (td := td) cs with ⟨c, h1, h2, h3, h4⟩ | ⟨h1, h2⟩
  · rw [h3] at hr
    exact lv_lookup (off := (c.2.1 : Int) - (pc : Int)) ok.1 ok.2.1 d.1 hp (hps ▸ h4) (tgt := c.2.1) (by omega) (hk c h1 ok r hr hK ls H locs cells slots hl hR hlo hcc hss)
  · rw [h1] at hr
    exact lv_lookup (off := dflt) ok.1 ok.2.1 d.1 hp (hps ▸ h2) htd (hd ok r hr hK ls H locs cells slots hl hR hlo hcc hss)
/-! calls by the kind of the answer -/
theorem J_callSi {δ : Type} {idx n : Nat} {y : MethodName} {Yc : ZY} {av : List Value} {tc : Option δ} (vi : δ → Int32) (so : δ → ZS) {k : δ → Option β} {st0 : List Value} (d : Dc Y pc (.invokestatic idx) 3 pc') (hl1 : Cond.methodLink (yo Y) idx y ∈ ztbl) (hst1 : Cond.static y ∈ ztbl) (hw : zCw y Yc n) (hc : ∀ r, tc = some r → zCt (xl X) (xD X) (xB X) y Yc av g (some (.int (vi r))) (so r)) (hst : st0 = av.reverse ++ st) (hn : av.length = n) (hd : yd Yc + 1 ≤ yd Y) (h8 : (st.map fun v => v.category).sum ≤ 8) (h1 : kc + yk Yc ≤ yk Y) (h2 : ks + yt Yc ≤ yt Y) (hk : ∀ r, J Y X (kc + yk Yc) (ks + yt Yc) pc' lo (.int (vi r) :: st) (so r) (k r) K) : J Y X kc ks pc lo st0 g (tc.bind k) K :=
  J_callS (vo := fun r => some (.int (vi r))) (so := so) d hl1 hst1 hw hc hst hn hd h8 h1 h2 (fun r _ => hk r)
theorem J_callSl {δ : Type} {idx n : Nat} {y : MethodName} {Yc : ZY} {av : List Value} {tc : Option δ} (vi : δ → Int64) (so : δ → ZS) {k : δ → Option β} {st0 : List Value} (d : Dc Y pc (.invokestatic idx) 3 pc') (hl1 : Cond.methodLink (yo Y) idx y ∈ ztbl) (hst1 : Cond.static y ∈ ztbl) (hw : zCw y Yc n) (hc : ∀ r, tc = some r → zCt (xl X) (xD X) (xB X) y Yc av g (some (.long (vi r))) (so r)) (hst : st0 = av.reverse ++ st) (hn : av.length = n) (hd : yd Yc + 1 ≤ yd Y) (h8 : (st.map fun v => v.category).sum ≤ 8) (h1 : kc + yk Yc ≤ yk Y) (h2 : ks + yt Yc ≤ yt Y) (hk : ∀ r, J Y X (kc + yk Yc) (ks + yt Yc) pc' lo (.long (vi r) :: st) (so r) (k r) K) : J Y X kc ks pc lo st0 g (tc.bind k) K :=
  J_callS (vo := fun r => some (.long (vi r))) (so := so) d hl1 hst1 hw hc hst hn hd h8 h1 h2 (fun r _ => hk r)
theorem J_callSv {δ : Type} {idx n : Nat} {y : MethodName} {Yc : ZY} {av : List Value} {tc : Option δ} (so : δ → ZS) {k : δ → Option β} {st0 : List Value} (d : Dc Y pc (.invokestatic idx) 3 pc') (hl1 : Cond.methodLink (yo Y) idx y ∈ ztbl) (hst1 : Cond.static y ∈ ztbl) (hw : zCw y Yc n) (hc : ∀ r, tc = some r → zCt (xl X) (xD X) (xB X) y Yc av g none (so r)) (hst : st0 = av.reverse ++ st) (hn : av.length = n) (hd : yd Yc + 1 ≤ yd Y) (h8 : (st.map fun v => v.category).sum ≤ 8) (h1 : kc + yk Yc ≤ yk Y) (h2 : ks + yt Yc ≤ yt Y) (hk : ∀ r, J Y X (kc + yk Yc) (ks + yt Yc) pc' lo st (so r) (k r) K) : J Y X kc ks pc lo st0 g (tc.bind k) K :=
  J_callS (vo := fun _ => none) (so := so) d hl1 hst1 hw hc hst hn hd h8 h1 h2 (fun r _ => hk r)
theorem J_callSNi {δ : Type} {idx n : Nat} {host : String} {y : MethodName} {Yc : ZY} {av : List Value} {tc : Option δ} (vi : δ → Int32) (so : δ → ZS) {k : δ → Option β} {st0 : List Value} (d : Dc Y pc (.invokestatic idx) 3 pc') (hl1 : (yo Y, idx, y, host) ∈ znest) (hst1 : Cond.static y ∈ ztbl) (hw : zCw y Yc n) (hc : ∀ r, tc = some r → zCt (xl X) (xD X) (xB X) y Yc av g (some (.int (vi r))) (so r)) (hst : st0 = av.reverse ++ st) (hn : av.length = n) (hd : yd Yc + 1 ≤ yd Y) (h8 : (st.map fun v => v.category).sum ≤ 8) (h1 : kc + yk Yc ≤ yk Y) (h2 : ks + yt Yc ≤ yt Y) (hk : ∀ r, J Y X (kc + yk Yc) (ks + yt Yc) pc' lo (.int (vi r) :: st) (so r) (k r) K) : J Y X kc ks pc lo st0 g (tc.bind k) K :=
  J_callSN (vo := fun r => some (.int (vi r))) (so := so) d hl1 hst1 hw hc hst hn hd h8 h1 h2 (fun r _ => hk r)
theorem J_callVi {δ : Type} {idx n ci a : Nat} {q : vw_C} {y : MethodName} {Yc : ZY} {av : List Value} {tc : Option δ} (vi : δ → Int32) (so : δ → ZS) {k : δ → Option β} {st0 : List Value} (d : Dc Y pc (.invokevirtual idx) 3 pc') (hl1 : Cond.methodLink (yo Y) idx y ∈ ztbl) (hin : Cond.instanceMethod y ∈ ztbl) (hcl : zcl[ci]? = some q) (hse : Cond.selects q.1 y y ∈ ztbl) (hw : zCw y Yc n) (hc : ∀ r, tc = some r → zCt (xl X) (xD X) (xB X) y Yc (.ref a :: av) g (some (.int (vi r))) (so r)) (hst : st0 = av.reverse ++ .ref a :: st) (hn : av.length = n) (hd : yd Yc + 1 ≤ yd Y) (h8 : (st.map fun v => v.category).sum ≤ 8) (h1 : kc + yk Yc ≤ yk Y) (h2 : ks + yt Yc ≤ yt Y) (hk : ∀ r, J Y X (kc + yk Yc) (ks + yt Yc) pc' lo (.int (vi r) :: st) (so r) (k r) K) : J Y X kc ks pc lo st0 g (zvs g a ci (tc.bind k)) K :=
  J_callV (vo := fun r => some (.int (vi r))) (so := so) d hl1 hin hcl hse hw hc hst hn hd h8 h1 h2 (fun r _ => hk r)
theorem J_callVl {δ : Type} {idx n ci a : Nat} {q : vw_C} {y : MethodName} {Yc : ZY} {av : List Value} {tc : Option δ} (vi : δ → Int64) (so : δ → ZS) {k : δ → Option β} {st0 : List Value} (d : Dc Y pc (.invokevirtual idx) 3 pc') (hl1 : Cond.methodLink (yo Y) idx y ∈ ztbl) (hin : Cond.instanceMethod y ∈ ztbl) (hcl : zcl[ci]? = some q) (hse : Cond.selects q.1 y y ∈ ztbl) (hw : zCw y Yc n) (hc : ∀ r, tc = some r → zCt (xl X) (xD X) (xB X) y Yc (.ref a :: av) g (some (.long (vi r))) (so r)) (hst : st0 = av.reverse ++ .ref a :: st) (hn : av.length = n) (hd : yd Yc + 1 ≤ yd Y) (h8 : (st.map fun v => v.category).sum ≤ 8) (h1 : kc + yk Yc ≤ yk Y) (h2 : ks + yt Yc ≤ yt Y) (hk : ∀ r, J Y X (kc + yk Yc) (ks + yt Yc) pc' lo (.long (vi r) :: st) (so r) (k r) K) : J Y X kc ks pc lo st0 g (zvs g a ci (tc.bind k)) K :=
  J_callV (vo := fun r => some (.long (vi r))) (so := so) d hl1 hin hcl hse hw hc hst hn hd h8 h1 h2 (fun r _ => hk r)
theorem J_callVv {δ : Type} {idx n ci a : Nat} {q : vw_C} {y : MethodName} {Yc : ZY} {av : List Value} {tc : Option δ} (so : δ → ZS) {k : δ → Option β} {st0 : List Value} (d : Dc Y pc (.invokevirtual idx) 3 pc') (hl1 : Cond.methodLink (yo Y) idx y ∈ ztbl) (hin : Cond.instanceMethod y ∈ ztbl) (hcl : zcl[ci]? = some q) (hse : Cond.selects q.1 y y ∈ ztbl) (hw : zCw y Yc n) (hc : ∀ r, tc = some r → zCt (xl X) (xD X) (xB X) y Yc (.ref a :: av) g none (so r)) (hst : st0 = av.reverse ++ .ref a :: st) (hn : av.length = n) (hd : yd Yc + 1 ≤ yd Y) (h8 : (st.map fun v => v.category).sum ≤ 8) (h1 : kc + yk Yc ≤ yk Y) (h2 : ks + yt Yc ≤ yt Y) (hk : ∀ r, J Y X (kc + yk Yc) (ks + yt Yc) pc' lo st (so r) (k r) K) : J Y X kc ks pc lo st0 g (zvs g a ci (tc.bind k)) K :=
  J_callV (vo := fun _ => none) (so := so) d hl1 hin hcl hse hw hc hst hn hd h8 h1 h2 (fun r _ => hk r)
/-! leaves, fewer locals -/
theorem J_leaf {b : β} (h : K b → zG Y X kc ks pc lo st g) : J Y X kc ks pc lo st g (some b) K := fun _ r hr hK => by cases hr; exact h hK
theorem zG.mono {kc2 ks2 : Nat} (h1 : kc ≤ kc2) (h2 : ks ≤ ks2) (k : zG Y X kc2 ks2 pc lo st g) : zG Y X kc ks pc lo st g := fun ls H locs cells slots hl hR hlo hc hs => k ls H locs cells slots hl hR hlo (Nat.le_trans hc h1) (Nat.le_trans hs h2)
def zmask : List Bool → List (Option Value) → List (Option Value)
  | [], l => l
  | _, [] => []
  | true :: m, v :: l => v :: zmask m l
  | false :: m, _ :: l => none :: zmask m l
theorem zmask_at : ∀ {m : List Bool} {l : List (Option Value)} {i : Nat} {v : Value}, (zmask m l)[i]? = some (some v) → l[i]? = some (some v)
  | [], l, i, v, h => by simpa [zmask] using h
  | _ :: _, [], i, v, h => by simp [zmask] at h
  | true :: m, x :: l, 0, v, h => by simpa [zmask] using h
  | true :: m, x :: l, i + 1, v, h => by
    have h' : (zmask m l)[i]? = some (some v) := by simpa [zmask] using h
    simpa using zmask_at h'
  | false :: m, x :: l, 0, v, h => by simp [zmask] at h
  | false :: m, x :: l, i + 1, v, h => by
    have h' : (zmask m l)[i]? = some (some v) := by simpa [zmask] using h
    simpa using zmask_at h'
theorem zG.mask (m : List Bool) (k : zG Y X kc ks pc (zmask m lo) st g) : zG Y X kc ks pc lo st g := fun ls H locs cells slots hl hR hlo hc hs => k ls H locs cells slots ⟨hl.1, hl.2.1, fun q hq => hl.2.2 q (by
    obtain ⟨j, h1, h2⟩ := zpairs_mem.mp hq
    exact zpairs_mem.mpr ⟨j, h1, zmask_at h2⟩)⟩ hR hlo hc hs
theorem J_mask (m : List Bool) (k : J Y X kc ks pc (zmask m lo) st g t K) : J Y X kc ks pc lo st g t K := fun ok r hr hK => (k ok r hr hK).mask m
end ZD1
