/-! ===== new cells, calls, entries ===== -/
def zNw (own : String) (idx ci : Nat) : Prop := ∃ q : vw_C, zcl[ci]? = some q ∧ Cond.classLink own idx q.1 ∈ ztbl ∧ Cond.instantiable q.1 q.2.2 ∈ ztbl ∧ Cond.initialized q.1 ∈ ztbl
theorem zdef : ∀ ci, ci < 13 → ∀ j, j < zN ci → defaultValue (zty ci j) = if zisR (zty ci j) then .null else .int 0 := by decide +kernel
def zPc (D : ZD) (B0 : Nat) (av : List Value) (g : ZS) : Array Value → State → Prop := fun v U => v = av.toArray ∧ zR D B0 g U.heap ∧ zK D U ∧ B0 ≤ U.heap.size
theorem zPc.blind {D : ZD} {B0 : Nat} {av : List Value} {g : ZS} : FrameBlind (zPc D B0 av g) := fun a U gf mk h => ⟨h.1, h.2.1, zK.same (u := U) (U := U.calling gf mk a) rfl h.2.2.1, h.2.2.2⟩
def zCt (l : Launch) (D : ZD) (B0 : Nat) (y : MethodName) (Yc : ZY) (av : List Value) (g : ZS) (v : Option Value) (g' : ZS) : Prop :=
  Met l y (.code y (yc Yc) (yn Yc) (yr Yc) :: ztbl) (zRm Yc) (zPc D B0 av g) (zQ D B0 (fun v1 g1 => v1 = v ∧ g1 = g')) (yk Yc) (yt Yc) (fun a => B0 ≤ a)
/-- what the tables say of a callee -/
def zCw (y : MethodName) (Yc : ZY) (n : Nat) : Prop := Cond.initialized y.cls ∈ ztbl ∧ Cond.code y (yc Yc) (yn Yc) (yr Yc) ∈ ztbl ∧ (y.cls ≠ "java/lang/invoke/MethodHandle" ∧ y.cls ≠ "java/lang/invoke/VarHandle" ∧ (parseMethodDescriptor y.desc).map (fun d => d.parameters.length) = some n) ∧ yn Yc ≤ 45
theorem zgood {y : MethodName} {Yc : ZY} {n : Nat} (h : zCw y Yc n) : GoodIn ztbl (.code y (yc Yc) (yn Yc) (yr Yc) :: ztbl) := by
  intro w hw
  have : w ∈ ztbl := by
    rcases List.mem_cons.mp hw with rfl | h1
    · exact h.2.1
    · exact h1
  exact ⟨this, good_of_word (List.mem_filter.mp this).2⟩
/-- a new cell: its address, the world with it -/
def zalloc (g : ZS) (q : Nat × Nat) : Option (Nat × ZS) := some (zsz g, znew g q)
section ZC
variable {β : Type} {Y : ZY} {X : ZX} {kc ks pc pc' : Nat} {lo : List (Option Value)} {st : List Value} {g : ZS} {t : Option β} {K : β → Prop}
theorem J_new {idx ci : Nat} (d : Dc Y pc (.new idx) 3 pc') (hw : zNw (yo Y) idx ci) (h1 : kc + 1 ≤ yk Y) (h2 : ks + zN ci ≤ yt Y) {k : Nat × ZS → Option β} (hk : ∀ p : Nat × ZS, J Y X (kc + 1) (ks + zN ci) pc' lo (.ref p.1 :: st) p.2 (k p) K) : J Y X kc ks pc lo st g ((zalloc g (ci, 0)).bind k) K := by
  intro ok r hr hK ls H locs cells slots hl hR hlo hc hs
  obtain ⟨d1, d2⟩ := d
  subst d2
  obtain ⟨q, hq, w1, w2, w3⟩ := hw
  have hci := zfit ci q hq
  have hmem : q ∈ zcl := List.mem_of_getElem? hq
  have hKn := ok.2.2.2.2.2.1.1 ci q hq
  obtain ⟨hS, hfc, kC, hkC, hkind⟩ := hKn
  have hz := hR.1
  have c1 : cells + 1 ≤ (xR X).cells := by have := ok.2.2.2.2.2.2.2.2.2.2.2.1; omega
  have c2 : slots + q.2.2 ≤ (xR X).slots := by have := ok.2.2.2.2.2.2.2.2.2.2.2.2.1; rw [zN_eq hq] at h2; omega
  refine W.newcK ok.1 ok.2.1 ok.2.2.2.1 (ok.2.2.2.2.1 _ w1) (ok.2.2.2.2.1 _ w2) (ok.2.2.2.2.1 _ w3) rfl d1 c1 c2 hfc hz (fun H' kC' e0 e1 e2 e3 => ?_)
  refine hk (zsz g, znew g (ci, 0)) ok r hr hK ls H' locs (cells + 1) (slots + q.2.2) hl ?_ hlo (by omega) (by rw [zN_eq hq]; omega)
  refine hR.new (by rw [e2, hz]) (fun b hb => e3 b (by rw [← hz]; exact hb)) (zC_of_obj hci ?_)
  rw [zN_eq hq]
  refine (u_born (zty ci) ok.2.2.2.2.1 (zIn q hmem) (ok.2.2.2.2.2.1.1 ci q hq) e0 e1 (zTy' hq)).to (fun j hj => ?_)
  rw [zdef ci hci j (by rw [zN_eq hq]; exact hj)]
  unfold zfv
  split <;> simp [znew, zgr, zgi, va_rf]
theorem J_newa {at_ : ArrayType} {kd n : Nat} {v : Int32} (d : Dc Y pc (.newarray at_) 2 pc') (hk1 : 20 ≤ kd) (hk2 : kd < 25) (hty : newarray.typeOf at_ = zta kd) (hw : Cond.arrayClass (zta kd) ∈ ztbl) (hv : ¬ v < 0) (hn : v.toNatClampNeg = n) (hb : n * componentBytes (zta kd) ≤ 536870912) (h1 : kc + 1 ≤ yk Y) (h2 : ks + n ≤ yt Y) {k : Nat × ZS → Option β} (hk : ∀ p : Nat × ZS, J Y X (kc + 1) (ks + n) pc' lo (.ref p.1 :: st) p.2 (k p) K) : J Y X kc ks pc lo (.int v :: st) g ((zalloc g (kd, n)).bind k) K := by
  intro ok r hr hK ls H locs cells slots hl hR hlo hc hs
  obtain ⟨d1, d2⟩ := d
  subst d2
  have hz := hR.1
  have c1 : cells + 1 ≤ (xR X).cells := by have := ok.2.2.2.2.2.2.2.2.2.2.2.1; omega
  have c2 : slots + v.toNatClampNeg ≤ (xR X).slots := by have := ok.2.2.2.2.2.2.2.2.2.2.2.2.1; omega
  refine W.newa ok.1 ok.2.1 (by rw [hty]; exact ok.2.2.2.2.1 _ hw) rfl d1 rfl hv (by rw [hty, hn]; exact hb) c1 c2 (fun cA kA comp f1 f2 f3 => ?_)
  have hRA := (ok.2.2.2.2.2.1.2.1 kd hk1 (by omega)).2
  have ecA : cA = (xD X).2 kd := by
    rw [hty] at f1
    rcases (show kd = 20 ∨ kd = 21 ∨ kd = 22 ∨ kd = 23 ∨ kd = 24 by omega) with e | e | e | e | e <;> (subst e; exact Option.some.inj (f1.symm.trans hRA))
  have e1 : (H.push { cls := cA, slots := Array.replicate v.toNatClampNeg (defaultValue (newarray.typeOf at_)), vm := .none })[zsz g]? = some (arrV ((xD X).2 kd) n (fun _ => defaultValue (zta kd))) := by
    rw [hn, arrV_new, hty, ecA, ← hz]
    simp
  have key : zR (xD X) (xB X) (znew g (kd, n)) (H.push { cls := cA, slots := Array.replicate v.toNatClampNeg (defaultValue (newarray.typeOf at_)), vm := .none }) := by
    refine hR.new (by simp) (fun b hb' => by rw [Array.getElem?_push, if_neg (Nat.ne_of_lt hb')]) ?_
    by_cases h24 : kd = 24
    · subst h24
      refine zC_of_long ?_
      rw [e1]
      refine congrArg some (congrArg (arrV ((xD X).2 24) n) (funext fun j => ?_))
      simp [znew, zgl, zta, defaultValue]
    · refine zC_of_int hk1 (by omega) ?_
      rw [e1]
      refine congrArg some (congrArg (arrV ((xD X).2 kd) n) (funext fun j => ?_))
      rcases (show kd = 20 ∨ kd = 21 ∨ kd = 22 ∨ kd = 23 by omega) with e | e | e | e <;> (subst e; simp [znew, zgi, zta, defaultValue])
  have := hk (zsz g, znew g (kd, n)) ok r hr hK ls _ locs (cells + 1) (slots + v.toNatClampNeg) hl key hlo (by omega) (by omega)
  dsimp only at this
  rw [← hz] at this
  exact this
/-- behind a call -/
theorem zafter {H : Heap} {locs : List Loc} {cells slots : Nat} {ls : Array Slot} {st0 : List Value} {Yc : ZY} {v : Option Value} {g' : ZS} {a : Array Value} (hl : lv_has ls (yn Y) (zpairs 0 lo)) (hlo : ∀ q ∈ locs, xB X ≤ q.base)
    (hr : va_Run (xp X) (xl X) (xe X) (xR X) (xs X) (xm X) (xa X) (xb X) (xh X) (xc X) H locs cells slots (yk Yc) (yt Yc) (F0 (xm X) pc ls st0) st (zQ (xD X) (xB X) (fun v1 g1 => v1 = v ∧ g1 = g') a) (fun a => xB X ≤ a))
    (kk : ∀ (H' : Heap) (locs' : List Loc), zR (xD X) (xB X) g' H' → (∀ q ∈ locs', xB X ≤ q.base) → zWt Y X H' locs' (cells + yk Yc) (slots + yt Yc) (F0 (xm X) (pc + 3) ls (v.toList ++ st))) : zWt Y X H locs cells slots (F0 (xm X) pc ls st0) := by
  intro T hT Xs
  obtain ⟨v1, st₀, t, T', L, h0, X', hL, e1, e2, ⟨v2, g2, hv, ⟨hv1, hg1⟩, hR2⟩, step⟩ := hr T hT Xs
  cases hv
  subst hv1 hg1
  obtain ⟨t2, a1, b1⟩ := kk T'.heap (locs ++ L) (by rw [e1]; exact hR2) (fun q hq => by
    rcases List.mem_append.mp hq with h | h
    · exact hlo q h
    · exact hL q h) T' rfl X'
  exact ⟨t2, step t2 a1, b1⟩
theorem J_callS {δ : Type} {idx n : Nat} {y : MethodName} {Yc : ZY} {av : List Value} {tc : Option δ} {vo : δ → Option Value} {so : δ → ZS} {k : δ → Option β} {st0 : List Value} (d : Dc Y pc (.invokestatic idx) 3 pc') (hl1 : Cond.methodLink (yo Y) idx y ∈ ztbl) (hst1 : Cond.static y ∈ ztbl) (hw : zCw y Yc n) (hc : ∀ r, tc = some r → zCt (xl X) (xD X) (xB X) y Yc av g (vo r) (so r)) (hst : st0 = av.reverse ++ st) (hn : av.length = n) (hd : yd Yc + 1 ≤ yd Y) (h8 : (st.map fun v => v.category).sum ≤ 8) (h1 : kc + yk Yc ≤ yk Y) (h2 : ks + yt Yc ≤ yt Y)
    (hk : ∀ r, tc = some r → J Y X (kc + yk Yc) (ks + yt Yc) pc' lo ((vo r).toList ++ st) (so r) (k r) K) : J Y X kc ks pc lo st0 g (tc.bind k) K := by
  intro ok r hr hK ls H locs cells slots hl hR hlo hcc hss
  obtain ⟨d1, d2⟩ := d
  subst d2
  obtain ⟨rc, hrc, hr⟩ := zbind hr
  obtain ⟨w1, w2, w3, w4⟩ := hw
  have ok' := ok
  obtain ⟨o1, o2, o3, o4, o5, o6, o7, o8, o9, o10, o11, o12, o13, o14⟩ := ok'
  refine zafter (Y := Y) (Yc := Yc) (a := av.toArray) (v := vo rc) (g' := so rc) hl hlo (va_runS (Ts := ztbl) (As := av) (own := yo Y) (index := idx) (n := n) ⟨o1, o2, o3, o4, o5⟩ (hc rc hrc) ⟨callB_of n o5 (zgood ⟨w1, w2, w3, w4⟩) rfl rfl rfl (o5 _ w1) (o5 _ hl1) w3 ⟨by show yd Yc + 1 ≤ _; omega, by show 8 + (yn Yc + 11) + 64 * yd Yc ≤ _; omega⟩, o5 _ hst1⟩ ⟨zPc.blind, fun U hU hW => ⟨rfl, by rw [hU]; exact hR, o6.moved hW, by rw [hU, hR.1]; exact hR.2.2.2.1⟩⟩ rfl hn hl.1 hst (lv_room h8) d1 ⟨by omega, by omega⟩) (fun H' locs' hR' hlo' => hk rc hrc ok r hr hK ls H' locs' _ _ hl hR' hlo' (by omega) (by omega))
end ZC
