/-! ===== what the law's own body needs ===== -/
def zcap {γ : Type} (i : Int32) (t : Option γ) : Option γ := if 0 ≤ i ∧ i.toNatClampNeg ≤ 2560 then t else none
def zCwW (y : MethodName) (Yc : ZY) (hh : List (Nat × Nat × Nat × Nat)) (n : Nat) : Prop := Cond.initialized y.cls ∈ ztbl ∧ Cond.codeWith y (yc Yc) (yn Yc) (yr Yc) hh ∈ ztbl ∧ (y.cls ≠ "java/lang/invoke/MethodHandle" ∧ y.cls ≠ "java/lang/invoke/VarHandle" ∧ (parseMethodDescriptor y.desc).map (fun d => d.parameters.length) = some n) ∧ yn Yc ≤ 45
theorem zcap5 {i : Int32} (h : 0 ≤ i ∧ i.toNatClampNeg ≤ 2560) : (i + 5).toNatClampNeg = i.toNatClampNeg + 5 := by
  obtain ⟨h1, h2⟩ := h
  have h0 : 0 ≤ i.toInt := by
    have := Int32.le_iff_toInt_le.mp h1
    simpa using this
  have e1 : i.toNatClampNeg = i.toInt.toNat := rfl
  have e2 : (i + 5).toInt = i.toInt + 5 := by
    rw [Int32.toInt_add]
    have : i.toInt ≤ 2560 := by omega
    rw [show (5 : Int32).toInt = 5 from rfl]
    exact Int.bmod_eq_of_le (by omega) (by omega)
  show (i + 5).toInt.toNat = _
  rw [e2, e1]
  omega
section ZLW
variable {β : Type} {Y : ZY} {X : ZX} {kc ks pc pc' : Nat} {lo : List (Option Value)} {st : List Value} {g : ZS} {t : Option β} {K : β → Prop}
theorem J_cap {i : Int32} (h : 0 ≤ i ∧ i.toNatClampNeg ≤ 2560 → J Y X kc ks pc lo st g t K) : J Y X kc ks pc lo st g (zcap i t) K := by
  intro ok r hr
  unfold zcap at hr
  by_cases hi : 0 ≤ i ∧ i.toNatClampNeg ≤ 2560
  · rw [if_pos hi] at hr
    exact h hi ok r hr
  · rw [if_neg hi] at hr; cases hr
theorem J_callSW {δ : Type} {idx n : Nat} {y : MethodName} {Yc : ZY} {hh : List (Nat × Nat × Nat × Nat)} {av : List Value} {tc : Option δ} (vi : δ → Int32) (so : δ → ZS) {k : δ → Option β} {st0 : List Value} (d : Dc Y pc (.invokestatic idx) 3 pc') (hl1 : Cond.methodLink (yo Y) idx y ∈ ztbl) (hst1 : Cond.static y ∈ ztbl) (hw : zCwW y Yc hh n) (hc : ∀ r, tc = some r → zCtW (xl X) (xD X) (xB X) y Yc hh av g (some (.int (vi r))) (so r)) (hst : st0 = av.reverse ++ st) (hn : av.length = n) (hd : yd Yc + 1 ≤ yd Y) (h8 : (st.map fun v => v.category).sum ≤ 8) (h1 : kc + yk Yc ≤ yk Y) (h2 : ks + yt Yc ≤ yt Y)
    (hk : ∀ r, J Y X (kc + yk Yc) (ks + yt Yc) pc' lo (.int (vi r) :: st) (so r) (k r) K) : J Y X kc ks pc lo st0 g (tc.bind k) K := by
  intro ok r hr hK ls H locs cells slots hl hR hlo hcc hss
  obtain ⟨d1, d2⟩ := d
  subst d2
  obtain ⟨rc, hrc, hr⟩ := zbind hr
  obtain ⟨w1, w2, ⟨w3, w4, w5⟩, w6⟩ := hw
  have ok' := ok
  obtain ⟨o1, o2, o3, o4, o5, o6, o7, o8, o9, o10, o11, o12, o13, o14⟩ := ok'
  have hg : GoodIn ztbl (.codeWith y (yc Yc) (yn Yc) (yr Yc) hh :: ztbl) := by
    intro w hw
    have : w ∈ ztbl := by
      rcases List.mem_cons.mp hw with rfl | h1
      · exact w2
      · exact h1
    exact ⟨this, good_of_word (List.mem_filter.mp this).2⟩
  refine zafter (Y := Y) (Yc := Yc) (a := av.toArray) (v := some (.int (vi rc))) (g' := so rc) hl hlo (vx_runSW (Ts := ztbl) (As := av) (own := yo Y) (index := idx) (n := n) ⟨o1, o2, o3, o4, o5⟩ (hc rc hrc) ⟨⟨rfl, rfl, by show yd Yc + 1 ≤ _; omega, by show 8 + (yn Yc + 11) + 64 * yd Yc ≤ _; omega, pay_in o5 hg, List.mem_cons_self⟩, o5 _ w2, o5 _ w1, ⟨w3, w4⟩, fun sig h => ?_, o5 _ hl1, o5 _ hst1⟩ ⟨zPc.blind, zPc.pre o6 hR⟩ rfl hn hl.1 hst (lv_room h8) d1 ⟨by omega, by omega⟩) (fun H' locs' hR' hlo' => hk rc ok r hr hK ls H' locs' _ _ hl hR' hlo' (by omega) (by omega))
  rw [h] at w5
  exact (Option.some.inj w5).symm
end ZLW
