/-! ===== arrays, new cells, loops ===== -/
section ZA
variable {β : Type} {Y : ZY} {X : ZX} {kc ks pc pc' : Nat} {lo : List (Option Value)} {st : List Value} {g : ZS} {K : β → Prop}
theorem zlen_some {g : ZS} {a k n : Nat} (h : zlen g a k = some n) : zsh g a = some (k, n) := by
  unfold zlen at h
  cases hq : zsh g a with
  | none => rw [hq] at h; cases h
  | some q =>
    rw [hq] at h
    simp only [Option.bind_some] at h
    split at h
    · cases h; rename_i e; rw [← e]
    · cases h
theorem zlen_of {g : ZS} {a k n : Nat} (h : zsh g a = some (k, n)) : zlen g a k = some n := by
  unfold zlen
  rw [h]
  simp
theorem zin_iff {i : Int32} {n : Nat} : zin i n = true ↔ ¬ (i < 0 ∨ n ≤ i.toNatClampNeg) := by
  unfold zin
  exact decide_eq_true_iff
theorem zbind {α γ : Type} {o : Option α} {f : α → Option γ} {r : γ} (h : o.bind f = some r) : ∃ a, o = some a ∧ f a = some r := Option.bind_eq_some_iff.mp h
theorem zald_some {k : Nat} {g : ZS} {a : Nat} {i x : Int32} (h : zald k g a i = some x) : ∃ n, zsh g a = some (k, n) ∧ ¬ (i < 0 ∨ n ≤ i.toNatClampNeg) ∧ x = zgi g a i.toNatClampNeg := by
  obtain ⟨n, h1, h2⟩ := zbind h
  split at h2
  · rename_i hi
    cases h2
    exact ⟨n, zlen_some h1, zin_iff.mp hi, rfl⟩
  · cases h2
theorem zlt {i : Int32} {n : Nat} (h : ¬ (i < 0 ∨ n ≤ i.toNatClampNeg)) : i.toNatClampNeg < n := Nat.lt_of_not_le fun q => h (Or.inr q)
theorem zald_core {kd : Nat} {ins : Instr} (hk1 : 20 ≤ kd) (hk2 : kd < 24)
    (row : ∀ {p : Program} {l : Launch} {e : Env} {R : Room} {s : State} {m : MethodId} {args : Array Value} {below : List Frame} {meth : Method} {c : Code} {H : Heap} {locs : List Loc} {cells slots : Nat} {Q : State → Prop} {cc : ByteArray} (_ : p.tables.exec = Jvm.exec) (_ : c.code = cc) {a : Addr} {cell : Cell} {j : Int32} {v : Value} (_ : H[a]? = some cell) (_ : s.isArrayOf cell (zta kd)) (_ : cell.vm ≠ .unknown)
      (_ : ¬ (j < 0 ∨ cell.slots.size ≤ j.toNatClampNeg)) (_ : cell.slots[j.toNatClampNeg]? = some v) {gf : JFrame} (_ : gf.method = m) {rest : List Value} (_ : gf.stack = .int j :: .ref a :: rest) (_ : decode cc gf.pc = .ok (ins, 1))
      (_ : W p l e R s m args below meth c H locs cells slots Q { gf with pc := gf.pc + 1, stack := v :: rest }), W p l e R s m args below meth c H locs cells slots Q gf)
    {a : Nat} {i : Int32} {k : Int32 → Option β} (d : Dc Y pc ins 1 pc') (hk : ∀ x, J Y X kc ks pc' lo (.int x :: st) g (k x) K) : J Y X kc ks pc lo (.int i :: .ref a :: st) g ((zald kd g a i).bind k) K := by
  intro ok r hr hK ls H locs cells slots hl hR hlo hc hs
  obtain ⟨d1, d2⟩ := d
  subst d2
  obtain ⟨x, hx, hr⟩ := zbind hr
  obtain ⟨n, h1, h2, rfl⟩ := zald_some hx
  have hC := zC_int (hR.2.1 a _ h1) hk1 hk2
  refine row ok.1 ok.2.1 hC ((ok.2.2.2.2.2.1.2.1 kd hk1 (by omega)).1 _ _) (fun h => by cases h) (by rw [arrV_size]; exact h2) (arrV_read _ _ (zlt h2)) rfl rfl d1 (hk _ ok r hr hK ls H locs cells slots hl hR hlo hc hs)
theorem J_iald {a : Nat} {i : Int32} {k : Int32 → Option β} (d : Dc Y pc .iaload 1 pc') (hk : ∀ x, J Y X kc ks pc' lo (.int x :: st) g (k x) K) : J Y X kc ks pc lo (.int i :: .ref a :: st) g ((zald 20 g a i).bind k) K :=
  zald_core (by decide) (by decide) W.iald d hk
theorem J_bald {a : Nat} {i : Int32} {k : Int32 → Option β} (d : Dc Y pc .baload 1 pc') (hk : ∀ x, J Y X kc ks pc' lo (.int x :: st) g (k x) K) : J Y X kc ks pc lo (.int i :: .ref a :: st) g ((zald 21 g a i).bind k) K :=
  zald_core (by decide) (by decide) W.bald d hk
theorem J_zald {a : Nat} {i : Int32} {k : Int32 → Option β} (d : Dc Y pc .baload 1 pc') (hk : ∀ x, J Y X kc ks pc' lo (.int x :: st) g (k x) K) : J Y X kc ks pc lo (.int i :: .ref a :: st) g ((zald 22 g a i).bind k) K :=
  zald_core (by decide) (by decide) W.zald d hk
theorem J_cald {a : Nat} {i : Int32} {k : Int32 → Option β} (d : Dc Y pc .caload 1 pc') (hk : ∀ x, J Y X kc ks pc' lo (.int x :: st) g (k x) K) : J Y X kc ks pc lo (.int i :: .ref a :: st) g ((zald 23 g a i).bind k) K :=
  zald_core (by decide) (by decide) W.cald d hk
/-- the script -/
theorem J_sald {a : Nat} {i : Int32} {k : Int32 → Option β} (d : Dc Y pc .iaload 1 pc') (hk : ∀ x, J Y X kc ks pc' lo (.int x :: st) g (k x) K) : J Y X kc ks pc lo (.int i :: .ref a :: st) g ((zald 28 g a i).bind k) K := by
  intro ok r hr hK ls H locs cells slots hl hR hlo hc hs
  obtain ⟨d1, d2⟩ := d
  subst d2
  obtain ⟨x, hx, hr⟩ := zbind hr
  obtain ⟨n, h1, h2, rfl⟩ := zald_some hx
  obtain ⟨scr, c1, c2, c3, c4, c5, c6⟩ := zC_scr (hR.2.1 a _ h1)
  obtain ⟨kk, comp, e1, e2⟩ := ok.2.2.2.2.2.1.2.2.1
  refine W.iald ok.1 ok.2.1 c1 ⟨c3, kk, by rw [c2]; exact e1, comp, e2⟩ c4 (by rw [c5]; exact h2) (c6 _ (zlt h2)) rfl rfl d1 (hk _ ok r hr hK ls H locs cells slots hl hR hlo hc hs)
theorem J_slen {a : Nat} {k : Int32 → Option β} (d : Dc Y pc .arraylength 1 pc') (hk : ∀ x, J Y X kc ks pc' lo (.int x :: st) g (k x) K) : J Y X kc ks pc lo (.ref a :: st) g ((zlen g a 28).bind fun n => k n.toInt32) K := by
  intro ok r hr hK ls H locs cells slots hl hR hlo hc hs
  obtain ⟨d1, d2⟩ := d
  subst d2
  obtain ⟨n, hx, hr⟩ := zbind hr
  have h1 := zlen_some hx
  obtain ⟨scr, c1, c2, c3, c4, c5, c6⟩ := zC_scr (hR.2.1 a _ h1)
  obtain ⟨kk, comp, e1, e2⟩ := ok.2.2.2.2.2.1.2.2.1
  refine W.alen ok.1 ok.2.1 c1 (ty := .int) ⟨c3, kk, by rw [c2]; exact e1, comp, e2⟩ rfl rfl rfl d1 ?_
  rw [c5]
  exact hk _ ok r hr hK ls H locs cells slots hl hR hlo hc hs
theorem J_lald {a : Nat} {i : Int32} {k : Int64 → Option β} (d : Dc Y pc .laload 1 pc') (hk : ∀ x, J Y X kc ks pc' lo (.long x :: st) g (k x) K) : J Y X kc ks pc lo (.int i :: .ref a :: st) g ((zlald g a i).bind k) K := by
  intro ok r hr hK ls H locs cells slots hl hR hlo hc hs
  obtain ⟨d1, d2⟩ := d
  subst d2
  obtain ⟨x, hx, hr⟩ := zbind hr
  obtain ⟨n, h1, h2⟩ := zbind hx
  split at h2
  · rename_i hi
    cases h2
    have h3 := zin_iff.mp hi
    have hC := zC_long (hR.2.1 a _ (zlen_some h1))
    exact W.lald ok.1 ok.2.1 hC ((ok.2.2.2.2.2.1.2.1 24 (by decide) (by decide)).1 _ _) (fun h => by cases h) (by rw [arrV_size]; exact h3) (arrV_read _ _ (zlt h3)) rfl rfl d1 (hk _ ok r hr hK ls H locs cells slots hl hR hlo hc hs)
  · cases h2
theorem J_aald {kd : Nat} (hk1 : 25 ≤ kd) (hk2 : kd < 28) {a : Nat} {i : Int32} {k : Nat → Option β} (d : Dc Y pc .aaload 1 pc') (hk : ∀ x, J Y X kc ks pc' lo (.ref x :: st) g (k x) K) : J Y X kc ks pc lo (.int i :: .ref a :: st) g ((zaald kd g a i).bind k) K := by
  intro ok r hr hK ls H locs cells slots hl hR hlo hc hs
  obtain ⟨d1, d2⟩ := d
  subst d2
  obtain ⟨x, hx, hr⟩ := zbind hr
  obtain ⟨n, h1, h2⟩ := zbind hx
  split at h2
  · rename_i hi
    have h3 := zin_iff.mp hi
    have hC := zC_ref (hR.2.1 a _ (zlen_some h1)) hk1 hk2
    refine W.aald ok.1 ok.2.1 hC (ty := zta kd) ((ok.2.2.2.2.2.1.2.1 kd (by omega) hk2).1 _ _) ?_ (fun h => by cases h) (by rw [arrV_size]; exact h3) (v := .ref x) ?_ rfl rfl d1 (hk _ ok r hr hK ls H locs cells slots hl hR hlo hc hs)
    · rcases (show kd = 25 ∨ kd = 26 ∨ kd = 27 by omega) with e | e | e <;> (subst e; rfl)
    · rw [arrV_read _ _ (zlt h3), h2]; rfl
  · cases h2
/-- an array of ints is written -/
theorem zast_fin {kd : Nat} (hk1 : 20 ≤ kd) (hk2 : kd < 24) {H H' : Heap} {a n : Nat} {D : ZD} {B0 : Nat} {i : Nat} {v : Int32} (hR : zR D B0 g H) (hs : zsh g a = some (kd, n)) (e1 : H'[a]? = some ((arrV (D.2 kd) n (fun j => .int (zgi g a j))).setSlot i (.int v))) (e2 : H'.size = H.size) (e3 : ∀ b, b ≠ a → H'[b]? = H[b]?) : zR D B0 (zsetI g a i v) H' := by
  refine hR.put hs (show kd < 28 by omega) rfl rfl e2 e3 (fun b j h => zup_ne h) (fun _ _ _ => rfl) (fun _ _ _ => rfl) (zC_of_int hk1 hk2 ?_)
  rw [e1, arrV_store]
  refine congrArg some (congrArg (arrV (D.2 kd) n) (funext fun j => ?_))
  simp only [updV, zsetI, zgi, zup_at]
  split <;> rfl
theorem zast_core {kd : Nat} {ins : Instr} (hk1 : 20 ≤ kd) (hk2 : kd < 24)
    (row : ∀ {p : Program} {l : Launch} {e : Env} {R : Room} {s : State} {m : MethodId} {args : Array Value} {below : List Frame} {meth : Method} {c : Code} {H : Heap} {locs : List Loc} {cells slots : Nat} {Q : State → Prop} {cc : ByteArray} (_ : p.tables.exec = Jvm.exec) (_ : c.code = cc) {a : Addr} {cell : Cell} {j x : Int32} (_ : H[a]? = some cell) (_ : s.isArrayOf cell (zta kd)) (_ : cell.vm ≠ .unknown)
      (_ : ¬ (j < 0 ∨ cell.slots.size ≤ j.toNatClampNeg)) {gf : JFrame} (_ : gf.method = m) {rest : List Value} (_ : gf.stack = .int x :: .int j :: .ref a :: rest) (_ : decode cc gf.pc = .ok (ins, 1))
      (_ : ∀ H' : Heap, H'[a]? = some (cell.setSlot j.toNatClampNeg (.int (vp_nar (zta kd) x))) → H'.size = H.size → (∀ q, q ≠ a → H'[q]? = H[q]?) → W p l e R s m args below meth c H' (locs ++ [⟨a, j.toNatClampNeg⟩]) cells slots Q { gf with pc := gf.pc + 1, stack := rest }), W p l e R s m args below meth c H locs cells slots Q gf)
    {a : Nat} {i v : Int32} {k : ZS → Option β} (d : Dc Y pc ins 1 pc') (hk : ∀ g', J Y X kc ks pc' lo st g' (k g') K) : J Y X kc ks pc lo (.int v :: .int i :: .ref a :: st) g ((zast kd g a i v).bind k) K := by
  intro ok r hr hK ls H locs cells slots hl hR hlo hc hs
  obtain ⟨d1, d2⟩ := d
  subst d2
  obtain ⟨x, hx, hr⟩ := zbind hr
  obtain ⟨n, h1, h2⟩ := zbind hx
  split at h2
  · rename_i hi
    cases h2
    have h3 := zin_iff.mp hi
    have h4 := zlen_some h1
    have hC := zC_int (hR.2.1 a _ h4) hk1 hk2
    refine row ok.1 ok.2.1 hC ((ok.2.2.2.2.2.1.2.1 kd hk1 (by omega)).1 _ _) (fun h => by cases h) (by rw [arrV_size]; exact h3) rfl rfl d1 (fun H' e1 e2 e3 => ?_)
    refine hk _ ok r hr hK ls H' _ cells slots hl (zast_fin hk1 hk2 hR h4 e1 e2 e3) ?_ hc hs
    intro z hz
    rcases List.mem_append.mp hz with h | h
    · exact hlo z h
    · rw [List.mem_singleton.mp h]; exact hR.2.2.1 a _ h4 (by show kd < 28; omega)
  · cases h2
theorem J_iast {a : Nat} {i v : Int32} {k : ZS → Option β} (d : Dc Y pc .iastore 1 pc') (hk : ∀ g', J Y X kc ks pc' lo st g' (k g') K) : J Y X kc ks pc lo (.int v :: .int i :: .ref a :: st) g ((zast 20 g a i v).bind k) K :=
  zast_core (by decide) (by decide) W.iast d hk
theorem J_bast {a : Nat} {i v : Int32} {k : ZS → Option β} (d : Dc Y pc .bastore 1 pc') (hk : ∀ g', J Y X kc ks pc' lo st g' (k g') K) : J Y X kc ks pc lo (.int v :: .int i :: .ref a :: st) g ((zast 21 g a i v).bind k) K :=
  zast_core (by decide) (by decide) W.bast d hk
theorem J_zast {a : Nat} {i v : Int32} {k : ZS → Option β} (d : Dc Y pc .bastore 1 pc') (hk : ∀ g', J Y X kc ks pc' lo st g' (k g') K) : J Y X kc ks pc lo (.int v :: .int i :: .ref a :: st) g ((zast 22 g a i v).bind k) K :=
  zast_core (by decide) (by decide) W.zast d hk
theorem J_cast {a : Nat} {i v : Int32} {k : ZS → Option β} (d : Dc Y pc .castore 1 pc') (hk : ∀ g', J Y X kc ks pc' lo st g' (k g') K) : J Y X kc ks pc lo (.int v :: .int i :: .ref a :: st) g ((zast 23 g a i v).bind k) K :=
  zast_core (by decide) (by decide) W.cast d hk
theorem J_last {a : Nat} {i : Int32} {v : Int64} {k : ZS → Option β} (d : Dc Y pc .lastore 1 pc') (hk : ∀ g', J Y X kc ks pc' lo st g' (k g') K) : J Y X kc ks pc lo (.long v :: .int i :: .ref a :: st) g ((zlast g a i v).bind k) K := by
  intro ok r hr hK ls H locs cells slots hl hR hlo hc hs
  obtain ⟨d1, d2⟩ := d
  subst d2
  obtain ⟨x, hx, hr⟩ := zbind hr
  obtain ⟨n, h1, h2⟩ := zbind hx
  split at h2
  · rename_i hi
    cases h2
    have h3 := zin_iff.mp hi
    have h4 := zlen_some h1
    have hC := zC_long (hR.2.1 a _ h4)
    refine W.last ok.1 ok.2.1 hC ((ok.2.2.2.2.2.1.2.1 24 (by decide) (by decide)).1 _ _) (fun h => by cases h) (by rw [arrV_size]; exact h3) rfl rfl d1 (fun H' e1 e2 e3 => ?_)
    refine hk _ ok r hr hK ls H' _ cells slots hl ?_ ?_ hc hs
    · refine hR.put h4 (show 24 < 28 by decide) rfl rfl e2 e3 (fun _ _ _ => rfl) (fun b j h => zup_ne h) (fun _ _ _ => rfl) (zC_of_long ?_)
      rw [e1, arrV_store]
      refine congrArg some (congrArg (arrV ((xD X).2 24) n) (funext fun j => ?_))
      simp only [updV, zsetL, zgl, zup_at]
      split <;> rfl
    · intro z hz
      rcases List.mem_append.mp hz with h | h
      · exact hlo z h
      · rw [List.mem_singleton.mp h]; exact hR.2.2.1 a _ h4 (show 24 < 28 by decide)
  · cases h2
/-- an object is laid into a row of its class -/
theorem J_aast {kd : Nat} (hkd : kd = 25 ∨ kd = 26) {a b : Nat} {i : Int32} {k : ZS → Option β} (d : Dc Y pc .aastore 1 pc') (hk : ∀ g', J Y X kc ks pc' lo st g' (k g') K) : J Y X kc ks pc lo (.ref b :: .int i :: .ref a :: st) g ((zaast kd g a i b).bind k) K := by
  intro ok r hr hK ls H locs cells slots hl hR hlo hc hs
  obtain ⟨d1, d2⟩ := d
  subst d2
  obtain ⟨x, hx, hr⟩ := zbind hr
  obtain ⟨n, h1, h2⟩ := zbind hx
  split at h2
  · rename_i hi
    cases h2
    have h3 := zin_iff.mp hi.1
    have h4 := zlen_some h1
    have hk1 : 25 ≤ kd := by omega
    have hk2 : kd < 28 := by omega
    have hC := zC_ref (hR.2.1 a _ h4) hk1 hk2
    obtain ⟨hA, hRA⟩ := ok.2.2.2.2.2.1.2.1 kd (by omega) hk2
    have hci : zcomp kd < 13 := by unfold zcomp; split <;> decide
    obtain ⟨cv, q1, q2, q3, q4⟩ := zC_obj (hR.2.1 b _ hi.2) hci
    have hcl : ∃ q : vw_C, zcl[zcomp kd]? = some q ∧ zta kd = .object q.1 := by
      rcases hkd with e | e <;> (subst e; exact ⟨_, rfl, rfl⟩)
    obtain ⟨q, hq, hty⟩ := hcl
    obtain ⟨-, hfc, kC, hkC, hkind⟩ := ok.2.2.2.2.2.1.1 _ q hq
    rw [hty] at hRA
    obtain ⟨kA, comp, r1, r2, r3, r4⟩ := hRA
    have ecomp : comp = (xD X).1.1.1 (zcomp kd) := Option.some.inj (r3.symm.trans hfc)
    refine W.aast ok.1 ok.2.1 hC (fun q h => by cases h) (fun h => by cases h) r1 r2 rfl (kcomp := kC) (by rw [ecomp]; exact hkC) ⟨fun h => h3 (Or.inl h), by rw [arrV_size]; exact zlt h3⟩ q1 (fun z h => by rw [q3] at h; cases h) (kv := kC) (by rw [q2]; exact hkC) ?_ rfl rfl d1 (fun H' e1 e2 e3 => ?_)
    · rw [q2, ecomp]; exact va_assign ⟨hfc, kC, hkC, hkind⟩
    refine hk _ ok r hr hK ls H' _ cells slots hl ?_ ?_ hc hs
    · refine hR.put h4 (show kd < 28 by omega) rfl rfl e2 e3 (fun _ _ _ => rfl) (fun _ _ _ => rfl) (fun b j h => zup_ne h) (zC_of_ref hk1 hk2 ?_)
      rw [e1, arrV_store]
      refine congrArg some (congrArg (arrV ((xD X).2 kd) n) (funext fun j => ?_))
      simp only [updV, zsetR, zgr, zup_at]
      split <;> rfl
    · intro z hz
      rcases List.mem_append.mp hz with h | h
      · exact hlo z h
      · rw [List.mem_singleton.mp h]; exact hR.2.2.1 a _ h4 (by show kd < 28; omega)
  · cases h2
/-! loops -/
def zloop {S γ : Type} (body : S → Option (S ⊕ γ)) : Nat → S → Option γ
  | 0, _ => none
  | n + 1, s => (body s).bind fun r => match r with
    | .inl s' => zloop body n s'
    | .inr o => some o
def zKl {S γ : Type} (Y : ZY) (X : ZX) (pc : Nat) (uc us : S → Nat) (lf : S → List (Option Value)) (gf : S → ZS) (K : γ → Prop) : S ⊕ γ → Prop := fun r => match r with
  | .inl s' => zG Y X (uc s') (us s') pc (lf s') [] (gf s')
  | .inr o => K o
theorem J_loop {S : Type} {body : S → Option (S ⊕ β)} {uc us : S → Nat} {lf : S → List (Option Value)} {gf : S → ZS} (h : ∀ s, J Y X (uc s) (us s) pc (lf s) [] (gf s) (body s) (zKl Y X pc uc us lf gf K)) : ∀ (n : Nat) (s : S), J Y X (uc s) (us s) pc (lf s) [] (gf s) (zloop body n s) K
  | 0, s => fun _ _ hr => by cases hr
  | n + 1, s => fun ok r hr hK => by
    obtain ⟨x, hx, hr⟩ := zbind hr
    refine h s ok x hx ?_
    cases x with
    | inl s' => exact J_loop h n s' ok r hr hK
    | inr o => cases hr; exact hK
theorem J_back {S : Type} {uc us : S → Nat} {lf : S → List (Option Value)} {gf : S → ZS} {K : β → Prop} (s' : S) (h1 : kc ≤ uc s') (h2 : ks ≤ us s') : J Y X kc ks pc (lf s') [] (gf s') (some (.inl s')) (zKl Y X pc uc us lf gf K) := by
  intro ok r hr hK ls H locs cells slots hl hR hlo hc hs
  cases hr
  exact hK ls H locs cells slots hl hR hlo (Nat.le_trans hc h1) (Nat.le_trans hs h2)
end ZA
