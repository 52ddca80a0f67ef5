/-! ===== what the code does to the abstract world, guarded by the shapes ===== -/
def zrdI (g : ZS) (a ci j : Nat) : Option Int32 := if zsh g a = some (ci, 0) then some (zgi g a j) else none
def zrdR (g : ZS) (a ci j : Nat) : Option Nat := if zsh g a = some (ci, 0) then zgr g a j else none
def zwrI (g : ZS) (a ci j : Nat) (v : Int32) : Option ZS := if zsh g a = some (ci, 0) then some (zsetI g a j v) else none
def zwrZ (g : ZS) (a ci j : Nat) (v : Int32) : Option ZS := if zsh g a = some (ci, 0) ∧ (v = 0 ∨ v = 1) then some (zsetI g a j v) else none
def zwrR (g : ZS) (a ci j : Nat) (b : Nat) : Option ZS := if zsh g a = some (ci, 0) then some (zsetR g a j (some b)) else none
/-- the length of a row of a kind -/
def zlen (g : ZS) (a k : Nat) : Option Nat := (zsh g a).bind fun q => if q.1 = k then some q.2 else none
def zin (i : Int32) (n : Nat) : Bool := decide (¬ (i < 0 ∨ n ≤ i.toNatClampNeg))
def zald (k : Nat) (g : ZS) (a : Nat) (i : Int32) : Option Int32 := (zlen g a k).bind fun n => if zin i n then some (zgi g a i.toNatClampNeg) else none
def zast (k : Nat) (g : ZS) (a : Nat) (i v : Int32) : Option ZS := (zlen g a k).bind fun n => if zin i n then some (zsetI g a i.toNatClampNeg (vp_nar (zta k) v)) else none
def zlald (g : ZS) (a : Nat) (i : Int32) : Option Int64 := (zlen g a 24).bind fun n => if zin i n then some (zgl g a i.toNatClampNeg) else none
def zlast (g : ZS) (a : Nat) (i : Int32) (v : Int64) : Option ZS := (zlen g a 24).bind fun n => if zin i n then some (zsetL g a i.toNatClampNeg v) else none
def zaald (k : Nat) (g : ZS) (a : Nat) (i : Int32) : Option Nat := (zlen g a k).bind fun n => if zin i n then zgr g a i.toNatClampNeg else none
/-- the class that a row of objects holds -/
def zcomp (k : Nat) : Nat := if k = 25 then 0 else 6
def zaast (k : Nat) (g : ZS) (a : Nat) (i : Int32) (b : Nat) : Option ZS := (zlen g a k).bind fun n => if zin i n ∧ zsh g b = some (zcomp k, 0) then some (zsetR g a i.toNatClampNeg (some b)) else none
def zFd (own : String) (idx ci j : Nat) : Prop := ∃ q : vw_C, zcl[ci]? = some q ∧ j < q.2.2 ∧ Cond.fieldLink own idx q.1 (q.2.1 j).2.1 (q.2.1 j).2.2.1 ∈ ztbl ∧ (q.2.1 j).1 = q.1
theorem zC_obj {D : ZD} {g : ZS} {H : Heap} {a ci n : Nat} (h : zC D g H a (ci, n)) (hc : ci < 13) : t_OB a (D.1.1.1 ci) (zN ci) (D.1.1.2 ci) H (fun j => zfv g a ci j) := by
  unfold zC at h
  rw [if_pos hc] at h
  exact h
theorem zC_int {D : ZD} {g : ZS} {H : Heap} {a k n : Nat} (h : zC D g H a (k, n)) (h1 : 20 ≤ k) (h2 : k < 24) : H[a]? = some (arrV (D.2 k) n (fun j => .int (zgi g a j))) := by
  unfold zC at h
  rw [if_neg (by show ¬ k < 13; omega), if_pos h2] at h
  exact h
theorem zC_long {D : ZD} {g : ZS} {H : Heap} {a n : Nat} (h : zC D g H a (24, n)) : H[a]? = some (arrV (D.2 24) n (fun j => .long (zgl g a j))) := by
  unfold zC at h
  rw [if_neg (by show ¬ 24 < 13; omega), if_neg (by show ¬ 24 < 24; omega), if_pos rfl] at h
  exact h
theorem zC_ref {D : ZD} {g : ZS} {H : Heap} {a k n : Nat} (h : zC D g H a (k, n)) (h1 : 25 ≤ k) (h2 : k < 28) : H[a]? = some (arrV (D.2 k) n (fun j => va_rf (zgr g a j))) := by
  unfold zC at h
  rw [if_neg (by show ¬ k < 13; omega), if_neg (by show ¬ k < 24; omega), if_neg (by show ¬ k = 24; omega), if_pos h2] at h
  exact h
theorem zC_scr {D : ZD} {g : ZS} {H : Heap} {a n : Nat} (h : zC D g H a (28, n)) : ∃ scr : Cell, H[a]? = some scr ∧ scr.cls = D.2 28 ∧ (∀ k, scr.vm ≠ .statics k) ∧ scr.vm ≠ .unknown ∧ scr.slots.size = n ∧ ∀ j, j < n → scr.slots[j]? = some (.int (zgi g a j)) := by
  unfold zC at h
  rw [if_neg (by show ¬ 28 < 13; omega), if_neg (by show ¬ 28 < 24; omega), if_neg (by show ¬ 28 = 24; omega), if_neg (by show ¬ 28 < 28; omega)] at h
  exact h
theorem zC_of_int {D : ZD} {g : ZS} {H : Heap} {a k n : Nat} (h1 : 20 ≤ k) (h2 : k < 24) (h : H[a]? = some (arrV (D.2 k) n (fun j => .int (zgi g a j)))) : zC D g H a (k, n) := by
  unfold zC
  rw [if_neg (by show ¬ k < 13; omega), if_pos h2]
  exact h
theorem zC_of_long {D : ZD} {g : ZS} {H : Heap} {a n : Nat} (h : H[a]? = some (arrV (D.2 24) n (fun j => .long (zgl g a j)))) : zC D g H a (24, n) := by
  unfold zC
  rw [if_neg (by show ¬ 24 < 13; omega), if_neg (by show ¬ 24 < 24; omega), if_pos rfl]
  exact h
theorem zC_of_ref {D : ZD} {g : ZS} {H : Heap} {a k n : Nat} (h1 : 25 ≤ k) (h2 : k < 28) (h : H[a]? = some (arrV (D.2 k) n (fun j => va_rf (zgr g a j)))) : zC D g H a (k, n) := by
  unfold zC
  rw [if_neg (by show ¬ k < 13; omega), if_neg (by show ¬ k < 24; omega), if_neg (by show ¬ k = 24; omega), if_pos h2]
  exact h
theorem zC_of_obj {D : ZD} {g : ZS} {H : Heap} {a ci n : Nat} (hc : ci < 13) (h : t_OB a (D.1.1.1 ci) (zN ci) (D.1.1.2 ci) H (fun j => zfv g a ci j)) : zC D g H a (ci, n) := by
  unfold zC
  rw [if_pos hc]
  exact h
/-- one cell is written: the others stay -/
theorem zR.put {D : ZD} {B0 : Nat} {g g' : ZS} {H H' : Heap} {a : Nat} {q : Nat × Nat} (h : zR D B0 g H) (hq : zsh g a = some q) (hlt : q.1 < 28) (hsh : zsh g' = zsh g) (hsz : zsz g' = zsz g) (hz : H'.size = H.size) (ho : ∀ b, b ≠ a → H'[b]? = H[b]?)
    (hi : ∀ b j, b ≠ a → zgi g' b j = zgi g b j) (hl : ∀ b j, b ≠ a → zgl g' b j = zgl g b j) (hr : ∀ b j, b ≠ a → zgr g' b j = zgr g b j) (hC : zC D g' H' a q) : zR D B0 g' H' := by
  obtain ⟨h1, h2, h3, h4, h5⟩ := h
  have ha := h3 a q hq hlt
  refine ⟨by rw [hz, hsz]; exact h1, fun b p hb => ?_, fun b p hb => h3 b p (by rw [← hsh]; exact hb), by rw [hsz]; exact h4, h5.1, fun b hb => by rw [ho b (by omega)]; exact h5.2 b hb⟩
  rw [hsh] at hb
  by_cases e : b = a
  · subst e
    rw [hq] at hb
    cases hb
    exact hC
  · exact (h2 b p hb).kept (ho b e) (fun j => hi b j e) (fun j => hl b j e) (fun j => hr b j e)
theorem zup_ne {α : Type} {f : Nat → Nat → α} {a j b k : Nat} {v : α} (h : b ≠ a) : zup f a j v b k = f b k := by
  unfold zup
  rw [if_neg (fun e => h e.1)]
theorem zup_at {α : Type} {f : Nat → Nat → α} {a j k : Nat} {v : α} : zup f a j v a k = if k = j then v else f a k := by
  unfold zup
  simp
/-- a new cell -/
theorem zR.new {D : ZD} {B0 : Nat} {g : ZS} {H H' : Heap} {q : Nat × Nat} (h : zR D B0 g H) (hz : H'.size = H.size + 1) (ho : ∀ b, b < H.size → H'[b]? = H[b]?) (hC : zC D (znew g q) H' (zsz g) q) : zR D B0 (znew g q) H' := by
  obtain ⟨h1, h2, h3, hB, h5⟩ := h
  refine ⟨by rw [hz, h1]; rfl, fun b p hb => ?_, fun b p hb hp => ?_, Nat.le_succ_of_le hB, h5.1, fun b hb => by rw [ho b (by rw [h1]; omega)]; exact h5.2 b hb⟩
  · by_cases e : b = zsz g
    · subst e
      have : zsh (znew g q) (zsz g) = some q := by simp [znew, zsh]
      rw [this] at hb
      cases hb
      exact hC
    · have hb' : zsh g b = some p := by simpa [znew, zsh, e] using hb
      have hC' := h2 b p hb'
      refine hC'.kept (ho b hC'.lt) (fun j => ?_) (fun j => ?_) (fun j => ?_) <;> simp [znew, zgi, zgl, zgr, e]
  · by_cases e : b = zsz g
    · subst e; exact hB
    · have hb' : zsh g b = some p := by simpa [znew, zsh, e] using hb
      exact h3 b p hb' hp
section ZH
variable {β : Type} {Y : ZY} {X : ZX} {kc ks pc pc' : Nat} {lo : List (Option Value)} {st : List Value} {g : ZS} {K : β → Prop}
theorem zget {H : Heap} {locs : List Loc} {cells slots : Nat} {ls : Array Slot} (ok : zOk Y X) {idx ci j a : Nat} (d : decode (yc Y) pc = .ok (.getfield idx, 3)) (hf : zFd (yo Y) idx ci j) (hR : zR (xD X) (xB X) g H) (hs : zsh g a = some (ci, 0)) (kk : zWt Y X H locs cells slots (F0 (xm X) (pc + 3) ls (zfv g a ci j :: st))) : zWt Y X H locs cells slots (F0 (xm X) pc ls (.ref a :: st)) := by
  obtain ⟨q, hq, hj, hlink, hdecl⟩ := hf
  have hC := zC_obj (hR.2.1 a _ hs) (zfit ci q hq)
  obtain ⟨cell, q1, q2, q3, q4⟩ := hC
  obtain ⟨hS, hfc, kC, hkC, hkind⟩ := ok.2.2.2.2.2.1.1 ci q hq
  obtain ⟨cf, kf, fi, f, hi, hsl⟩ := hS j hj
  have hmem : q ∈ zcl := List.mem_of_getElem? hq
  refine W.getf ok.1 ok.2.1 ok.2.2.2.1 (ok.2.2.2.2.1 _ hlink) (hdecl ▸ hi) (u_facts hfc hkC (u_lays ok.2.2.2.2.1 (zIn q hmem) hj) hi).1 q1 (by rw [q3]; exact fun h => by cases h) (v := zfv g a ci j) ?_ rfl rfl d kk
  rw [hsl]
  exact q4 j (by rw [zN_eq hq]; exact hj)
theorem J_getI {idx ci j a : Nat} {k : Int32 → Option β} (d : Dc Y pc (.getfield idx) 3 pc') (hf : zFd (yo Y) idx ci j) (ht : zisR (zty ci j) = false) (hk : ∀ x, J Y X kc ks pc' lo (.int x :: st) g (k x) K) : J Y X kc ks pc lo (.ref a :: st) g ((zrdI g a ci j).bind k) K := by
  intro ok r hr hK ls H locs cells slots hl hR hlo hc hs
  obtain ⟨d1, d2⟩ := d
  subst d2
  unfold zrdI at hr
  by_cases hsh : zsh g a = some (ci, 0)
  · rw [if_pos hsh] at hr
    have := hk (zgi g a j) ok r hr hK ls H locs cells slots hl hR hlo hc hs
    refine zget ok d1 hf hR hsh ?_
    unfold zfv
    rw [ht]
    exact this
  · rw [if_neg hsh] at hr; cases hr
theorem J_getR {idx ci j a : Nat} {k : Nat → Option β} (d : Dc Y pc (.getfield idx) 3 pc') (hf : zFd (yo Y) idx ci j) (ht : zisR (zty ci j) = true) (hk : ∀ x, J Y X kc ks pc' lo (.ref x :: st) g (k x) K) : J Y X kc ks pc lo (.ref a :: st) g ((zrdR g a ci j).bind k) K := by
  intro ok r hr hK ls H locs cells slots hl hR hlo hc hs
  obtain ⟨d1, d2⟩ := d
  subst d2
  unfold zrdR at hr
  by_cases hsh : zsh g a = some (ci, 0)
  · rw [if_pos hsh] at hr
    cases hx : zgr g a j with
    | none => rw [hx] at hr; cases hr
    | some x =>
      rw [hx] at hr
      have := hk x ok r hr hK ls H locs cells slots hl hR hlo hc hs
      refine zget ok d1 hf hR hsh ?_
      unfold zfv
      rw [ht, hx]
      exact this
  · rw [if_neg hsh] at hr; cases hr
/-- a field is written -/
theorem zput {H : Heap} {locs : List Loc} {cells slots : Nat} {ls : Array Slot} (ok : zOk Y X) {idx ci j a : Nat} {v : Value} {g' : ZS} (d : decode (yc Y) pc = .ok (.putfield idx, 3)) (hf : zFd (yo Y) idx ci j) (hown : yi Y = true → zcl[ci]?.map (fun q => q.1) = some (yo Y)) (hfin : zcl[ci]?.map (fun q => (q.2.1 j).2.2.2) = some (yi Y) ∨ zcl[ci]?.map (fun q => (q.2.1 j).2.2.2) = some false) (hR : zR (xD X) (xB X) g H) (hs : zsh g a = some (ci, 0)) (hn : narrow (zty ci j) v = v) (hfit : fits (zty ci j) v = true)
    (hv : ∀ i, i < zN ci → zfv g' a ci i = updV (fun i => zfv g a ci i) j v i) (hsh : zsh g' = zsh g) (hsz : zsz g' = zsz g) (hi : ∀ b i, b ≠ a → zgi g' b i = zgi g b i) (hl : ∀ b i, b ≠ a → zgl g' b i = zgl g b i) (hr : ∀ b i, b ≠ a → zgr g' b i = zgr g b i)
    (hlo : ∀ q ∈ locs, xB X ≤ q.base) (kk : ∀ (H' : Heap) (locs' : List Loc), zR (xD X) (xB X) g' H' → (∀ q ∈ locs', xB X ≤ q.base) → zWt Y X H' locs' cells slots (F0 (xm X) (pc + 3) ls st)) : zWt Y X H locs cells slots (F0 (xm X) pc ls (v :: .ref a :: st)) := by
  obtain ⟨q, hq, hj, hlink, hdecl⟩ := hf
  have hci := zfit ci q hq
  have hC := zC_obj (hR.2.1 a _ hs) hci
  obtain ⟨cell, q1, q2, q3, q4⟩ := hC
  obtain ⟨hS, hfc, kC, hkC, hkind⟩ := ok.2.2.2.2.2.1.1 ci q hq
  obtain ⟨cf, kf, fi, f, hi0, hsl⟩ := hS j hj
  have hmem : q ∈ zcl := List.mem_of_getElem? hq
  have hap : ∀ x y, x < q.2.2 → y < q.2.2 → x ≠ y → (xD X).1.1.2 ci x ≠ (xD X).1.1.2 ci y := by
    intro x y hx hy hne
    obtain ⟨_, _, _, fa, hia, ea⟩ := hS x hx
    obtain ⟨_, _, _, fb, hib, eb⟩ := hS y hy
    rw [← ea, ← eb]
    refine u_apart (u_lays ok.2.2.2.2.1 (zIn q hmem) hx) (u_lays ok.2.2.2.2.1 (zIn q hmem) hy) hia hib ?_
    rw [(State.fieldFound?_type hia (zTy' hq x hx)).1, (State.fieldFound?_type hib (zTy' hq y hy)).1]
    exact zNm q hmem x hx y hy hne
  have hst := (u_facts hfc hkC (u_lays ok.2.2.2.2.1 (zIn q hmem) hj) hi0).1
  have hlay := ok.2.2.2.2.1 _ (zIn q hmem _ (u_in_lay hj))
  have hB : xB X ≤ a := hR.2.2.1 a _ hs (by show ci < 28; omega)
  have fin : ∀ H' : Heap, H'[a]? = some (cell.setSlot f.slot v) → H'.size = H.size → (∀ b, b ≠ a → H'[b]? = H[b]?) → zWt Y X H' (locs ++ [⟨a, f.slot⟩]) cells slots (F0 (xm X) (pc + 3) ls st) := by
    intro H' e1 e2 e3
    refine kk H' _ ?_ ?_
    · refine hR.put hs (show ci < 28 by omega) hsh hsz e2 e3 hi hl hr (zC_of_obj hci ?_)
      rw [hsl] at e1
      exact t_OB.to (V := updV (fun i => zfv g a ci i) j v) ⟨_, e1, q2, q3, t_set q4 (by rw [zN_eq hq]; exact hap) (by rw [zN_eq hq]; exact hj) v⟩ (fun i hi' => (hv i hi').symm)
    · intro z hz
      rcases List.mem_append.mp hz with h | h
      · exact hlo z h
      · rw [List.mem_singleton.mp h]; exact hB
  have hlt : f.slot < cell.slots.size := by rw [hsl]; exact k2_hasslot (q4 j (by rw [zN_eq hq]; exact hj))
  unfold u_lay at hlay
  cases hfv : (q.2.1 j).2.2.2 with
  | false =>
    rw [if_neg (by rw [hfv]; decide)] at hlay
    have h6 := u_store hfc hkC hkind hlay hi0 (zTy' hq j hj) hn hfit
    exact W.putK ok.1 ok.2.1 (f := f) ⟨ok.2.2.2.1, ok.2.2.2.2.1 _ hlink, ⟨_, _, _, hdecl ▸ hi0⟩, hst⟩ (by rw [q2]; exact h6) q1 q3 hlt rfl rfl d fin
  | true =>
    rw [if_pos hfv] at hlay
    have hyi : yi Y = true := by
      rcases hfin with h | h
      · rw [hq] at h; simp [hfv] at h; exact h
      · rw [hq] at h; simp [hfv] at h
    have hcf : (xm X).cls = cf := by
      obtain ⟨_, _, c', _, _, _, -, -, hf', -, -, -, hown2, -⟩ := Cond.laysFinal_spec hlay
      have e1 : c' = cf := by have := hi0.symm.trans hf'; simp at this; exact this.1.symm
      have ho := hown hyi
      rw [hq] at ho
      simp at ho
      rw [hdecl, ho] at hown2
      rw [← e1]; exact Option.some.inj (ok.2.2.2.1.symm.trans hown2)
    have h6 := u_fits hfc hkC hkind (Or.inr hlay) hi0 (zTy' hq j hj) hn hfit
    exact W.putFinK ok.1 ok.2.1 ok.2.2.2.1 (ok.2.2.2.2.1 _ hlink) (hdecl ▸ hi0) hst hcf (ok.2.2.2.2.2.2.2.2.1 hyi) (by rw [q2]; exact h6) q1 q3 hlt rfl rfl d fin
theorem J_putI {idx ci j a : Nat} {v : Int32} {k : ZS → Option β} (d : Dc Y pc (.putfield idx) 3 pc') (hf : zFd (yo Y) idx ci j) (ht : zty ci j = .int) (hfin : zcl[ci]?.map (fun q => (q.2.1 j).2.2.2) = some false) (hk : ∀ g', J Y X kc ks pc' lo st g' (k g') K) (hown : yi Y = true → zcl[ci]?.map (fun q => q.1) = some (yo Y)) : J Y X kc ks pc lo (.int v :: .ref a :: st) g ((zwrI g a ci j v).bind k) K := by
  intro ok r hr hK ls H locs cells slots hl hR hlo hc hs
  obtain ⟨d1, d2⟩ := d
  subst d2
  unfold zwrI at hr
  by_cases hsh : zsh g a = some (ci, 0)
  · rw [if_pos hsh] at hr
    refine zput ok d1 hf hown (Or.inr hfin) hR hsh (by rw [ht]; rfl) (by rw [ht]; rfl) (g' := zsetI g a j v) (fun i _ => ?_) rfl rfl (fun b i h => zup_ne h) (fun _ _ _ => rfl) (fun _ _ _ => rfl) hlo (fun H' locs' hR' hlo' => hk _ ok r hr hK ls H' locs' cells slots hl hR' hlo' hc hs)
    unfold zfv updV
    by_cases e : i = j
    · subst e; simp [ht, zisR, zsetI, zgi, zup_at]
    · simp only [zsetI, zgi, zgr, zup_at, if_neg e]
  · rw [if_neg hsh] at hr; cases hr
theorem J_putZ {idx ci j a : Nat} {v : Int32} {k : ZS → Option β} (d : Dc Y pc (.putfield idx) 3 pc') (hf : zFd (yo Y) idx ci j) (ht : zty ci j = .boolean) (hfin : zcl[ci]?.map (fun q => (q.2.1 j).2.2.2) = some false) (hk : ∀ g', J Y X kc ks pc' lo st g' (k g') K) (hown : yi Y = true → zcl[ci]?.map (fun q => q.1) = some (yo Y)) : J Y X kc ks pc lo (.int v :: .ref a :: st) g ((zwrZ g a ci j v).bind k) K := by
  intro ok r hr hK ls H locs cells slots hl hR hlo hc hs
  obtain ⟨d1, d2⟩ := d
  subst d2
  unfold zwrZ at hr
  by_cases hsh : zsh g a = some (ci, 0) ∧ (v = 0 ∨ v = 1)
  · rw [if_pos hsh] at hr
    refine zput ok d1 hf hown (Or.inr hfin) hR hsh.1 (by rw [ht]; rcases hsh.2 with h | h <;> (rw [h]; rfl)) (by rw [ht]; rcases hsh.2 with h | h <;> (rw [h]; rfl)) (g' := zsetI g a j v) (fun i _ => ?_) rfl rfl (fun b i h => zup_ne h) (fun _ _ _ => rfl) (fun _ _ _ => rfl) hlo (fun H' locs' hR' hlo' => hk _ ok r hr hK ls H' locs' cells slots hl hR' hlo' hc hs)
    unfold zfv updV
    by_cases e : i = j
    · subst e; simp [ht, zisR, zsetI, zgi, zup_at]
    · simp only [zsetI, zgi, zgr, zup_at, if_neg e]
  · rw [if_neg hsh] at hr; cases hr
theorem J_putR {idx ci j a b : Nat} {k : ZS → Option β} (d : Dc Y pc (.putfield idx) 3 pc') (hf : zFd (yo Y) idx ci j) (ht : zisR (zty ci j) = true) (hfin : zcl[ci]?.map (fun q => (q.2.1 j).2.2.2) = some (yi Y) ∨ zcl[ci]?.map (fun q => (q.2.1 j).2.2.2) = some false) (hk : ∀ g', J Y X kc ks pc' lo st g' (k g') K) (hown : yi Y = true → zcl[ci]?.map (fun q => q.1) = some (yo Y)) : J Y X kc ks pc lo (.ref b :: .ref a :: st) g ((zwrR g a ci j b).bind k) K := by
  intro ok r hr hK ls H locs cells slots hl hR hlo hc hs
  obtain ⟨d1, d2⟩ := d
  subst d2
  unfold zwrR at hr
  have hn : narrow (zty ci j) (.ref b) = .ref b ∧ fits (zty ci j) (.ref b) = true := by
    cases hz : zty ci j <;> simp only [hz, zisR] at ht <;> first | exact ⟨rfl, rfl⟩ | cases ht
  by_cases hsh : zsh g a = some (ci, 0)
  · rw [if_pos hsh] at hr
    refine zput ok d1 hf hown hfin hR hsh hn.1 hn.2 (g' := zsetR g a j (some b)) (fun i _ => ?_) rfl rfl (fun _ _ _ => rfl) (fun _ _ _ => rfl) (fun b i h => zup_ne h) hlo (fun H' locs' hR' hlo' => hk _ ok r hr hK ls H' locs' cells slots hl hR' hlo' hc hs)
    unfold zfv updV
    by_cases e : i = j
    · subst e; simp [ht, zsetR, zgr, zup_at, va_rf]
    · simp only [zsetR, zgi, zgr, zup_at, if_neg e]
  · rw [if_neg hsh] at hr; cases hr
end ZH
