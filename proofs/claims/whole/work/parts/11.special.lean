/-! ===== arraycopy, rows of objects, rows of rows ===== -/
def zcopy (g : ZS) (a b n : Nat) : Option ZS := (zlen g a 20).bind fun la => (zlen g b 20).bind fun lb => if n ≤ la ∧ n ≤ lb then some (g.1, (fun x y => if x = b ∧ y < n then zgi g a y else zgi g x y), g.2.2) else none
/-- n rows of k ints below an outer row -/
def znewM (g : ZS) (n k : Nat) : ZS :=
  (fun x => if x = zsz g then some (27, n) else if zsz g < x ∧ x ≤ zsz g + n then some (20, k) else zsh g x, fun x y => if zsz g ≤ x ∧ x ≤ zsz g + n then 0 else zgi g x y, zgl g, fun x y => if x = zsz g then (if y < n then some (zsz g + 1 + y) else none) else zgr g x y, zsz g + 1 + n)
def zallocM (g : ZS) (n k : Nat) : Option (Nat × ZS) := some (zsz g, znewM g n k)
section ZSp
variable {β : Type} {Y : ZY} {X : ZX} {kc ks pc pc' : Nat} {lo : List (Option Value)} {st : List Value} {g : ZS} {t : Option β} {K : β → Prop}
theorem J_copy {idx a b n : Nat} {v : Int32} {k : ZS → Option β} (d : Dc Y pc (.invokestatic idx) 3 pc') (hl1 : Cond.methodLink (yo Y) idx arraycopyName ∈ ztbl) (hnat : Cond.native arraycopyName ∈ ztbl) (hst1 : Cond.static arraycopyName ∈ ztbl) (hini : Cond.initialized "java/lang/System" ∈ ztbl) (hv : ¬ v < 0) (hn : v.toNatClampNeg = n) (hd : 1 ≤ yd Y) (h8 : (st.map fun v => v.category).sum + (nativeFrameWords "java/lang/System" "arraycopy" 5 + 11) ≤ 64)
    (hk : ∀ g', J Y X kc ks pc' lo st g' (k g') K) : J Y X kc ks pc lo (.int v :: .int 0 :: .ref b :: .int 0 :: .ref a :: st) g ((zcopy g a b n).bind k) K := by
  intro ok r hr hK ls H locs cells slots hl hR hlo hc hs
  obtain ⟨d1, d2⟩ := d
  subst d2
  obtain ⟨g', hg', hr⟩ := zbind hr
  obtain ⟨la, h1, hg'⟩ := zbind hg'
  obtain ⟨lb, h2, hg'⟩ := zbind hg'
  split at hg'
  case isFalse => cases hg'
  case isTrue hle =>
  cases hg'
  have ok' := ok
  obtain ⟨o1, o2, o3, o4, o5, o6, o7, o8, o9, o10, o11, o12, o13, o14⟩ := ok'
  have s1 := zlen_some h1
  have s2 := zlen_some h2
  have hc0 := zC_int (hR.2.1 a _ s1) (by decide) (by decide)
  have hc1 := zC_int (hR.2.1 b _ s2) (by decide) (by decide)
  have hA := (o6.2.1 20 (by decide) (by decide)).1
  have nn : ∀ z : Int32, ¬ z < 0 → z.toInt = (z.toNatClampNeg : Int) := by
    intro z hz
    have hz0 : (0 : Int) ≤ z.toInt := by
      have := Int32.not_lt.mp hz
      simpa using Int32.le_iff_toInt_le.mp this
    show z.toInt = ((z.toInt.toNat : Nat) : Int)
    omega
  intro T hT Xs
  obtain ⟨-, k0, hk0, cm0, hkk0⟩ := hA la (fun j => .int (zgi g a j))
  obtain ⟨-, k1, hk1, cm1, hkk1⟩ := hA lb (fun j => .int (zgi g b j))
  have z0 : (0 : Int32).toNatClampNeg = 0 := rfl
  obtain ⟨vm', X', step⟩ := Xs.arraycopy o1 o4 (o5 _ hl1) (o5 _ hnat) (o5 _ hst1) (o5 _ hini) (src := a) (dst := b) (srcPos := 0) (destPos := 0) (n := v) (by rw [hT]; exact hc0) (by rw [hT]; exact hc1)
    (fun _ h => by cases h) (fun _ h => by cases h) (fun h => by cases h) (fun h => by cases h) hk0 hk1 hkk0 hkk1 (by simp [zta, refKind]) (by decide) (by decide) hv
    (by rw [nn v hv]; show ¬ (0 : Int) + _ > ((arrV _ la _).slots.size : Int); rw [arrV_size]; omega)
    (by rw [nn v hv]; show ¬ (0 : Int) + _ > ((arrV _ lb _).slots.size : Int); rw [arrV_size]; omega)
    (fun vm₁ _ i hi => by
      have e : (arrV ((xD X).2 20) la (fun j => .int (zgi g a j))).slots.getD ((0 : Int32).toNatClampNeg + i) .null = .int (zgi g a i) := by
        rw [Array.getD_eq_getD_getElem?, z0, Nat.zero_add, arrV_read _ _ (by omega)]
        rfl
      refine ⟨?_, ?_⟩
      · rw [e]; rfl
      · rw [e]; exact trivial)
    (g := F0 (xm X) pc ls (.int v :: .int 0 :: .ref b :: .int 0 :: .ref a :: st)) rfl (by rw [o3]; exact hl.1) (rest := st) rfl (by rw [o2]; exact d1) (by omega) (by show 2 * 0 + _ + _ ≤ _; omega)
  have e1 : copied (arrV ((xD X).2 20) la (fun j => .int (zgi g a j))) (arrV ((xD X).2 20) lb (fun j => .int (zgi g b j))) 0 0 v = arrV ((xD X).2 20) lb (fun j => .int (va_cpy (zgi g a) (zgi g b) (0 : Int32).toNatClampNeg (0 : Int32).toNatClampNeg v.toNatClampNeg j)) := va_copied (fun z => .int z) _ _ _ _ (by rw [z0]; omega)
  rw [e1] at X' step
  have hlt : b < H.size := (Array.getElem?_eq_some_iff.mp hc1).1
  have hheap : ((T.setVm vm').setCell b (arrV ((xD X).2 20) lb (fun j => .int (va_cpy (zgi g a) (zgi g b) (0 : Int32).toNatClampNeg (0 : Int32).toNatClampNeg v.toNatClampNeg j)))).heap = H.setIfInBounds b (arrV ((xD X).2 20) lb (fun j => .int (va_cpy (zgi g a) (zgi g b) (0 : Int32).toNatClampNeg (0 : Int32).toNatClampNeg v.toNatClampNeg j))) := by rw [← hT]; rfl
  have hB : xB X ≤ b := hR.2.2.1 b _ s2 (show 20 < 28 by decide)
  obtain ⟨t, a1, b1⟩ := hk _ ok r hr hK ls _ _ cells slots hl (hR.put (g' := (g.1, (fun x y => if x = b ∧ y < n then zgi g a y else zgi g x y), g.2.2)) s2 (show 20 < 28 by decide) rfl rfl (by simp) (fun q hq => by simp [Array.getElem?_setIfInBounds, Ne.symm hq]) (fun q j hq => by simp [zgi, hq]) (fun _ _ _ => rfl) (fun _ _ _ => rfl) (zC_of_int (by decide) (by decide) (by
      rw [Array.getElem?_setIfInBounds, if_pos rfl, if_pos hlt]
      refine congrArg some (congrArg (arrV ((xD X).2 20) lb) (funext fun j => ?_))
      simp only [va_cpy, z0, hn, Nat.zero_add, Nat.zero_le, true_and, Nat.sub_zero, zgi]))) (fun q hq => by
      rcases List.mem_append.mp hq with h | h
      · exact hlo q h
      · obtain ⟨z, -, hz⟩ := List.mem_map.mp h
        rw [← hz]
        exact hB) hc hs _ hheap X'
  exact ⟨t, step t a1, b1⟩
theorem J_anewa {idx kd n : Nat} {v : Int32} {q : vw_C} {k : Nat × ZS → Option β} (d : Dc Y pc (.anewarray idx) 3 pc') (hkd : kd = 25 ∨ kd = 26) (hcl : zcl[zcomp kd]? = some q) (hw : Cond.classLink (yo Y) idx q.1 ∈ ztbl) (hv : ¬ v < 0) (hn : v.toNatClampNeg = n) (hb : n * 4 ≤ 536870912) (h1 : kc + 1 ≤ yk Y) (h2 : ks + n ≤ yt Y) (hk : ∀ p : Nat × ZS, J Y X (kc + 1) (ks + n) pc' lo (.ref p.1 :: st) p.2 (k p) K) : J Y X kc ks pc lo (.int v :: st) g ((zalloc g (kd, n)).bind k) K := by
  intro ok r hr hK ls H locs cells slots hl hR hlo hc hs
  obtain ⟨d1, d2⟩ := d
  subst d2
  have ok' := ok
  obtain ⟨o1, o2, o3, o4, o5, o6, o7, o8, o9, o10, o11, o12, o13, o14⟩ := ok'
  have hz := hR.1
  have hAO : va_AO q.1 (xs X) := by
    rcases hkd with e | e <;> (subst e; cases hcl)
    · exact o6.2.2.2.2.1
    · exact o6.2.2.2.2.2.1
  have hty : zta kd = .object q.1 := by
    rcases hkd with e | e <;> (subst e; cases hcl; rfl)
  refine W.anew o1 o2 o4 (o5 _ hw) hAO.use rfl d1 rfl hv (by rw [hn]; exact hb) (by omega) (by omega) (fun cA kA comp f1 f2 f3 f4 => ?_)
  have hRA := (o6.2.1 kd (by omega) (by omega)).2
  rw [hty] at hRA
  obtain ⟨kA', comp', r1, r2, r3, r4⟩ := hRA
  have ecA : cA = (xD X).2 kd := Option.some.inj (f1.symm.trans r4)
  have e1 : (H.push { cls := cA, slots := Array.replicate v.toNatClampNeg .null, vm := .none })[zsz g]? = some (arrV ((xD X).2 kd) n (fun _ => .null)) := by
    rw [hn, arrV_new, ecA, ← hz]
    simp
  have key : zR (xD X) (xB X) (znew g (kd, n)) (H.push { cls := cA, slots := Array.replicate v.toNatClampNeg .null, vm := .none }) := by
    refine hR.new (by simp) (fun b hb' => by rw [Array.getElem?_push, if_neg (Nat.ne_of_lt hb')]) (zC_of_ref (by omega) (by omega) ?_)
    rw [e1]
    refine congrArg some (congrArg (arrV ((xD X).2 kd) n) (funext fun j => ?_))
    simp [znew, zgr, va_rf]
  have := hk (zsz g, znew g (kd, n)) ok r hr hK ls _ locs (cells + 1) (slots + v.toNatClampNeg) hl key hlo (by omega) (by omega)
  dsimp only at this
  rw [← hz] at this
  exact this
theorem J_mnewa {idx n k0 : Nat} {u v : Int32} {k : Nat × ZS → Option β} (d : Dc Y pc (.multianewarray idx 2) 4 pc') (hw : Cond.classLink (yo Y) idx ("[" ++ (FieldType.array .int).toString) ∈ ztbl) (ha : Cond.arrayClass .int ∈ ztbl) (hu : ¬ u < 0) (hv : ¬ v < 0) (hn : u.toNatClampNeg = n) (hk0 : v.toNatClampNeg = k0) (hb1 : n * 4 ≤ 536870912) (hb2 : k0 * 4 ≤ 536870912) (h1 : kc + (1 + n) ≤ yk Y) (h2 : ks + (n + n * k0) ≤ yt Y) (hk : ∀ p : Nat × ZS, J Y X (kc + 1 + n) (ks + n + n * k0) pc' lo (.ref p.1 :: st) p.2 (k p) K) : J Y X kc ks pc lo (.int v :: .int u :: st) g ((zallocM g n k0).bind k) K := by
  intro ok r hr hK ls H locs cells slots hl hR hlo hc hs
  obtain ⟨d1, d2⟩ := d
  subst d2
  subst hn
  subst hk0
  have ok' := ok
  obtain ⟨o1, o2, o3, o4, o5, o6, o7, o8, o9, o10, o11, o12, o13, o14⟩ := ok'
  have hz := hR.1
  intro T hT Xs
  have hcomp : ∃ m0, m0 = u.toNatClampNeg * v.toNatClampNeg := ⟨_, rfl⟩
  obtain ⟨m0, hm0⟩ := hcomp
  obtain ⟨vm₁, cA, comp, -, fA, fC, hO, hI, X', step⟩ := Jvm.Stand.multianewarray2F Xs o1 o4 (o5 _ hw) (ty := .int) o6.2.2.2.2.2.2.1 (o5 _ ha) (g := F0 (xm X) pc ls (.int v :: .int u :: st)) rfl (by rw [o2]; exact d1) rfl hu hv hb1 hb2 (by omega) rfl rfl (by omega) (by rw [← hm0] at h2 ⊢; omega)
  have hRA := (o6.2.1 27 (by decide) (by decide)).2
  have hRI := (o6.2.1 20 (by decide) (by decide)).2
  have ecA : cA = (xD X).2 27 := Option.some.inj (fA.symm.trans hRA)
  have eco : comp = (xD X).2 20 := Option.some.inj (fC.symm.trans hRI)
  subst ecA
  subst eco
  generalize hF : Jvm.Free.Multi.fill (T.setVm vm₁) ((xD X).2 27) ((xD X).2 20) u.toNatClampNeg v.toNatClampNeg (defaultValue .int) u.toNatClampNeg = F at X' step
  have hTh : (T.setVm vm₁).heap = H := hT
  obtain ⟨f1, f2, -, -⟩ := Jvm.Free.Multi.fill_facts (T.setVm vm₁) ((xD X).2 27) ((xD X).2 20) u.toNatClampNeg v.toNatClampNeg (defaultValue .int) u.toNatClampNeg
  rw [hF, hTh] at f1 f2
  have hold : ∀ x : Nat, x < H.size → F.heap[x]? = H[x]? := fun x hx => by
    have := Jvm.Free.Multi.fill_old (T.setVm vm₁) ((xD X).2 27) ((xD X).2 20) u.toNatClampNeg v.toNatClampNeg (defaultValue .int) (a := x) (by rw [hTh]; exact hx) u.toNatClampNeg
    rw [hF, hTh] at this
    exact this
  have hrow : ∀ j : Nat, j < u.toNatClampNeg → F.heap[H.size + 1 + j]? = some (Jvm.Free.Multi.innerC ((xD X).2 20) v.toNatClampNeg (defaultValue .int)) := fun j hj => by
    have := Jvm.Free.Multi.fill_inner (T.setVm vm₁) ((xD X).2 27) ((xD X).2 20) u.toNatClampNeg v.toNatClampNeg (defaultValue .int) u.toNatClampNeg j hj
    rw [hF, hTh] at this
    exact this
  have houter : ∀ i : Nat, Jvm.Free.Multi.outerC ((xD X).2 27) u.toNatClampNeg H.size i = arrV ((xD X).2 27) u.toNatClampNeg (fun j => va_rf (if j < i then some (H.size + 1 + j) else none)) := by
    intro i
    induction i with
    | zero =>
      show ({ cls := (xD X).2 27, slots := Array.replicate u.toNatClampNeg .null, vm := .none } : Cell) = _
      rw [arrV_new]
      refine congrArg (arrV ((xD X).2 27) u.toNatClampNeg) (funext fun j => ?_)
      simp [va_rf]
    | succ i ih =>
      show (Jvm.Free.Multi.outerC ((xD X).2 27) u.toNatClampNeg H.size i).setSlot i (.ref (H.size + 1 + i)) = _
      rw [ih, arrV_store]
      refine congrArg (arrV ((xD X).2 27) u.toNatClampNeg) (funext fun j => ?_)
      by_cases e : j = i
      · subst e
        simp [updV, va_rf]
      · by_cases h : j < i
        · simp [updV, e, h, Nat.lt_succ_of_lt h]
        · simp [updV, e, h, show ¬ j < i + 1 by omega]
  rw [houter] at f2
  have key : zR (xD X) (xB X) (znewM g u.toNatClampNeg v.toNatClampNeg) F.heap := by
    obtain ⟨_, h2', h3', h4', h5'⟩ := hR
    refine ⟨by rw [f1, hz]; rfl, fun b p hb => ?_, fun b p hb hp => ?_, by show xB X ≤ zsz g + 1 + _; omega, h5'.1, fun b hb => by rw [hold b (by rw [hz]; omega)]; exact h5'.2 b hb⟩
    · by_cases e : b = zsz g
      · subst e
        have : zsh (znewM g u.toNatClampNeg v.toNatClampNeg) (zsz g) = some (27, u.toNatClampNeg) := by simp [znewM, zsh]
        rw [this] at hb
        cases hb
        refine zC_of_ref (by decide) (by decide) ?_
        rw [← hz, f2]
        refine congrArg some (congrArg (arrV ((xD X).2 27) u.toNatClampNeg) (funext fun j => ?_))
        simp [znewM, zgr, hz]
      · by_cases e2 : zsz g < b ∧ b ≤ zsz g + u.toNatClampNeg
        · have : zsh (znewM g u.toNatClampNeg v.toNatClampNeg) b = some (20, v.toNatClampNeg) := by simp [znewM, zsh, e, e2]
          rw [this] at hb
          cases hb
          refine zC_of_int (by decide) (by decide) ?_
          have hj := hrow (b - (zsz g + 1)) (by omega)
          rw [hz, show zsz g + 1 + (b - (zsz g + 1)) = b by omega] at hj
          rw [hj]
          show some ({ cls := (xD X).2 20, slots := Array.replicate v.toNatClampNeg (.int 0), vm := .none } : Cell) = _
          rw [arrV_new]
          refine congrArg some (congrArg (arrV ((xD X).2 20) v.toNatClampNeg) (funext fun j => ?_))
          simp [znewM, zgi, show zsz g ≤ b by omega, e2.2]
        · have hb' : zsh g b = some p := by simpa [znewM, zsh, e, e2] using hb
          have hC' := h2' b p hb'
          have hblt := hC'.lt
          rw [hz] at hblt
          refine hC'.kept (hold b (by rw [hz]; exact hblt)) (fun j => ?_) (fun j => ?_) (fun j => ?_)
          · simp [znewM, zgi, show ¬ zsz g ≤ b by omega]
          · rfl
          · simp [znewM, zgr, e]
    · by_cases e : b = zsz g
      · subst e; exact h4'
      · by_cases e2 : zsz g < b ∧ b ≤ zsz g + u.toNatClampNeg
        · omega
        · have hb' : zsh g b = some p := by simpa [znewM, zsh, e, e2] using hb
          exact h3' b p hb' hp
  obtain ⟨t, a1, b1⟩ := hk (zsz g, znewM g u.toNatClampNeg v.toNatClampNeg) ok r hr hK ls F.heap locs _ _ hl key hlo (by omega) (by omega) F rfl X'
  refine ⟨t, step t ?_, b1⟩
  have e : T.heap.size = zsz g := by rw [hT]; exact hz
  rw [e]
  exact a1
end ZSp
