/-! ===== the abstract world: shapes, ints, longs, references, the heap's size ===== -/
abbrev ZS : Type := (Nat → Option (Nat × Nat)) × (Nat → Nat → Int32) × (Nat → Nat → Int64) × (Nat → Nat → Option Nat) × Nat
abbrev zsh (g : ZS) : Nat → Option (Nat × Nat) := g.1
abbrev zgi (g : ZS) : Nat → Nat → Int32 := g.2.1
abbrev zgl (g : ZS) : Nat → Nat → Int64 := g.2.2.1
abbrev zgr (g : ZS) : Nat → Nat → Option Nat := g.2.2.2.1
abbrev zsz (g : ZS) : Nat := g.2.2.2.2
def zup {α : Type} (f : Nat → Nat → α) (a j : Nat) (v : α) : Nat → Nat → α := fun x y => if x = a ∧ y = j then v else f x y
def zsetI (g : ZS) (a j : Nat) (v : Int32) : ZS := (g.1, zup g.2.1 a j v, g.2.2)
def zsetL (g : ZS) (a j : Nat) (v : Int64) : ZS := (g.1, g.2.1, zup g.2.2.1 a j v, g.2.2.2)
def zsetR (g : ZS) (a j : Nat) (v : Option Nat) : ZS := (g.1, g.2.1, g.2.2.1, zup g.2.2.2.1 a j v, g.2.2.2.2)
/-- a new cell of a kind: all zero -/
def znew (g : ZS) (q : Nat × Nat) : ZS :=
  (fun x => if x = g.2.2.2.2 then some q else g.1 x, fun x y => if x = g.2.2.2.2 then 0 else g.2.1 x y, fun x y => if x = g.2.2.2.2 then 0 else g.2.2.1 x y, fun x y => if x = g.2.2.2.2 then none else g.2.2.2.1 x y, g.2.2.2.2 + 1)
abbrev zcl : List vw_C := [(RX0, TX0, 9), (RX1, TX1, 1), (RX2, TX2, 2), (RX3, TX3, 3), (RX4, TX4, 2), (RX5, TX5, 9), (RX6, TX6, 3), (RX7, TX7, 6), (RX8, TX8, 2), (RX9, TX9, 2), (RX10, TX10, 4), (RX11, TX11, 18), (RX12, TX12, 48)]
def zty (ci : Nat) : Nat → FieldType := match ci with
  | 0 => tyX0 | 1 => tyX1 | 2 => tyX2 | 3 => tyX3 | 4 => tyX4 | 5 => tyX5 | 6 => tyX6 | 7 => tyX7 | 8 => tyX8 | 9 => tyX9 | 10 => tyX10 | 11 => tyX11 | _ => tyX12
def zN (ci : Nat) : Nat := match zcl[ci]? with | some q => q.2.2 | none => 0
def zisR (ty : FieldType) : Bool := match ty with | .array _ => true | .object _ => true | _ => false
def zfv (g : ZS) (a ci j : Nat) : Value := if zisR (zty ci j) then va_rf (zgr g a j) else .int (zgi g a j)
/-- array kinds: 20 int, 21 byte, 22 boolean, 23 char, 24 long, 25 Bird, 26 Scene, 27 int[]; 28 the script -/
def zta (k : Nat) : FieldType := match k with
  | 20 => .int | 21 => .byte | 22 => .boolean | 23 => .char | 24 => .long | 25 => .object RX0 | 26 => .object RX6 | _ => .array .int
/-- classes and slots, the start of the law and its arguments; the classes of arrays -/
abbrev ZD : Type := (va_G × State × Array Value) × (Nat → ClassId)
abbrev zs0 (D : ZD) : State := D.1.2.1
/-- what the claim gives of the start -/
def zF (D : ZD) : Prop := (∀ w ∈ lw_tbl, w.before D.1.2.2 D.1.2.1 = true) ∧ (Jvm.Cond.and given_1 narrow_1).before D.1.2.2 D.1.2.1 = true
def znest : List (String × Nat × MethodName × String) := [("ParrotsLast", 9, ⟨"ParrotsLast$Text", "<init>", "()V"⟩, "ParrotsLast"), ("ParrotsLast", 18, ⟨"ParrotsLast$Told", "<init>", "()V"⟩, "ParrotsLast"), ("ParrotsLast", 36, ⟨"ParrotsLast$Rule", "<init>", "()V"⟩, "ParrotsLast"), ("ParrotsLast$Scene", 17, ⟨"ParrotsLast$Bird", "<init>", "()V"⟩, "ParrotsLast"), ("ParrotsLast", 71, ⟨"ParrotsLast$Bird", "<init>", "()V"⟩, "ParrotsLast"), ("ParrotsLast", 78, ⟨"ParrotsLast$Tongue", "<init>", "()V"⟩, "ParrotsLast"), ("ParrotsLast", 88, ⟨"ParrotsLast$Tellings", "<init>", "()V"⟩, "ParrotsLast"), ("ParrotsLast", 95, ⟨"ParrotsLast$Notes", "<init>", "()V"⟩, "ParrotsLast"), ("ParrotsLast$Houses", 40, ⟨"ParrotsLast", "lowestOf", "(I)I"⟩, "ParrotsLast"), ("ParrotsLast$Tellings", 37, ⟨"ParrotsLast", "lowestOf", "(I)I"⟩, "ParrotsLast")]
def zAOA (U : State) : Prop := (Cond.arrayOver (.array .int)).before #[] U = true
theorem zAOA.moved {u U : State} (hvm : u.vm.Alike U.vm) (h : zAOA u) : zAOA U := by
  obtain ⟨comp, c, k, h1, h2, h3, h4, h5⟩ := arrayOverA_spec h
  obtain ⟨k', hk', he⟩ := hvm.2.2 _ _ h3
  have hi : (U.vm.classes.findIdx? fun (x : Class) => match x.kind with | .array component _ => component == comp | _ => false) = some c := by
    rw [hvm.findIdx?_eq _ (fun _ => rfl)]; exact h2
  have hkind : k'.kind = .array comp (.array .int) := by rw [he]; exact h4
  have f1 : U.vm.findClass (FieldType.array .int).toString = some comp := by rw [hvm.findClass]; exact h1
  have f2 : U.vm.findClass ("[" ++ (FieldType.array .int).toString) = some c := by rw [hvm.findClass]; exact h5
  unfold zAOA Cond.before Cond.holds
  simp only [Cond.value]
  rw [f1, Option.bind_some]
  refine (congrArg (fun o : Option Nat => (o.bind (fun c => (U.vm.classes[c]?).map fun (k : Class) => match k.kind with | .array _ ty => decide (ty = FieldType.array .int) && decide (U.vm.findClass ("[" ++ (FieldType.array .int).toString) = some c) | _ => false) == some true)) hi).trans ?_
  simp [hk', hkind, f2]
def zK (D : ZD) (U : State) : Prop := (∀ (c : Nat) (q : vw_C), zcl[c]? = some q → u_Kn U q.1 q.2.1 q.2.2 (D.1.1.1 c) (D.1.1.2 c)) ∧ (∀ k, 20 ≤ k → k < 28 → ArrOfT U (D.2 k) (zta k) ∧ va_RA U (D.2 k) (zta k)) ∧ (∃ (k : Class) (comp : ClassId), U.vm.classes[D.2 28]? = some k ∧ k.kind = .array comp .int) ∧ (∀ q ∈ znest, va_Nw (.methodLinkNest q.1 q.2.1 q.2.2.1 q.2.2.2) U) ∧ va_AO RX0 U ∧ va_AO RX6 U ∧ zAOA U ∧ zF D ∧ (zs0 D).WarmedH U.vm
theorem zK.moved {D : ZD} {u U : State} (hW : u.WarmedH U.vm) (h : zK D u) : zK D U := by
  obtain ⟨h1, h2, ⟨k, comp, h3, h4⟩, h5, h6, h7, h8, h9, h10⟩ := h
  have hvm := hW.alike
  obtain ⟨k', hk', he⟩ := hvm.2.2 _ _ h3
  exact ⟨fun c q hq => u_Kn_moved hvm (h1 c q hq), fun k a b => ⟨arrOfT_moved hvm (h2 k a b).1, (h2 k a b).2.moved hvm⟩, ⟨k', comp, hk', by rw [he]; exact h4⟩, fun q hq => (h5 q hq).warmM hW, h6.moved hvm, h7.moved hvm, h8.moved hvm, h9, State.WarmedH.trans h10 hW⟩
theorem zK.same {D : ZD} {u U : State} (hv : u.vm = U.vm) (h : zK D u) : zK D U := by
  obtain ⟨h1, h2, ⟨k, comp, h3, h4⟩, h5, h6, h7, h8, h9, h10⟩ := h
  have hvm : u.vm.Alike U.vm := by rw [hv]; exact Vm.Alike.refl _
  exact ⟨fun c q hq => u_Kn_moved hvm (h1 c q hq), fun k a b => ⟨arrOfT_moved hvm (h2 k a b).1, (h2 k a b).2.moved hvm⟩, ⟨k, comp, by rw [← hv]; exact h3, h4⟩, fun q hq => (h5 q hq).same rfl hv, h6.moved hvm, h7.moved hvm, h8.moved hvm, h9, by rw [← hv]; exact h10⟩
def zC (D : ZD) (g : ZS) (H : Heap) (a : Nat) (q : Nat × Nat) : Prop :=
  if q.1 < 13 then t_OB a (D.1.1.1 q.1) (zN q.1) (D.1.1.2 q.1) H (fun j => zfv g a q.1 j)
  else if q.1 < 24 then H[a]? = some (arrV (D.2 q.1) q.2 (fun j => .int (zgi g a j)))
  else if q.1 = 24 then H[a]? = some (arrV (D.2 q.1) q.2 (fun j => .long (zgl g a j)))
  else if q.1 < 28 then H[a]? = some (arrV (D.2 q.1) q.2 (fun j => va_rf (zgr g a j)))
  else ∃ scr : Cell, H[a]? = some scr ∧ scr.cls = D.2 28 ∧ (∀ k, scr.vm ≠ .statics k) ∧ scr.vm ≠ .unknown ∧ scr.slots.size = q.2 ∧ ∀ j, j < q.2 → scr.slots[j]? = some (.int (zgi g a j))
def zR (D : ZD) (B0 : Nat) (g : ZS) (H : Heap) : Prop := H.size = zsz g ∧ (∀ a q, zsh g a = some q → zC D g H a q) ∧ (∀ a q, zsh g a = some q → q.1 < 28 → B0 ≤ a) ∧ B0 ≤ zsz g ∧ (zs0 D).heap.size ≤ B0 ∧ ∀ q, q < B0 → H[q]? = (zs0 D).heap[q]?
theorem zC.lt {D : ZD} {g : ZS} {H : Heap} {a : Nat} {q : Nat × Nat} (h : zC D g H a q) : a < H.size := by
  unfold zC at h
  split at h
  · obtain ⟨cell, h1, -⟩ := h
    exact (Array.getElem?_eq_some_iff.mp h1).1
  · split at h
    · exact (Array.getElem?_eq_some_iff.mp h).1
    · split at h
      · exact (Array.getElem?_eq_some_iff.mp h).1
      · split at h
        · exact (Array.getElem?_eq_some_iff.mp h).1
        · obtain ⟨cell, h1, -⟩ := h
          exact (Array.getElem?_eq_some_iff.mp h1).1
/-- another cell stays -/
theorem zC.kept {D : ZD} {g g' : ZS} {H H' : Heap} {a : Nat} {q : Nat × Nat} (h : zC D g H a q) (hH : H'[a]? = H[a]?) (hi : ∀ j, zgi g' a j = zgi g a j) (hl : ∀ j, zgl g' a j = zgl g a j) (hr : ∀ j, zgr g' a j = zgr g a j) : zC D g' H' a q := by
  unfold zC at h ⊢
  by_cases h1 : q.1 < 13
  · rw [if_pos h1] at h ⊢
    exact (h.kept hH).to (fun j _ => by unfold zfv; rw [hi, hr])
  rw [if_neg h1] at h ⊢
  by_cases h2 : q.1 < 24
  · rw [if_pos h2] at h ⊢
    rw [hH, h]; simp only [hi]
  rw [if_neg h2] at h ⊢
  by_cases h3 : q.1 = 24
  · rw [if_pos h3] at h ⊢
    rw [hH, h]; simp only [hl]
  rw [if_neg h3] at h ⊢
  by_cases h4 : q.1 < 28
  · rw [if_pos h4] at h ⊢
    rw [hH, h]; simp only [hr]
  rw [if_neg h4] at h ⊢
  obtain ⟨scr, h1, h2, h3, h4, h5, h6⟩ := h
  exact ⟨scr, by rw [hH]; exact h1, h2, h3, h4, h5, fun j hj => by rw [hi]; exact h6 j hj⟩
theorem zfit (ci : Nat) : ∀ q : vw_C, zcl[ci]? = some q → ci < 13 := by
  intro q h
  exact (List.getElem?_eq_some_iff.mp h).1
theorem zN_eq {ci : Nat} {q : vw_C} (h : zcl[ci]? = some q) : zN ci = q.2.2 := by unfold zN; rw [h]
def ztbl : List Cond := lw_tbl.filter goodWord
set_option maxRecDepth 20000 in
theorem zIn0 : ∀ q ∈ zcl, ∀ w ∈ u_ws q.1 q.2.1 q.2.2, w ∈ lw_tbl := by decide +kernel
theorem zIn1 : ∀ q ∈ zcl, ∀ w ∈ u_ws q.1 q.2.1 q.2.2, goodWord w = true := by decide +kernel
theorem zIn : ∀ q ∈ zcl, ∀ w ∈ u_ws q.1 q.2.1 q.2.2, w ∈ ztbl := fun q hq w hw => List.mem_filter.mpr ⟨zIn0 q hq w hw, zIn1 q hq w hw⟩
theorem zw {w : Cond} (i : Nat) (h : lw_tbl[i]? = some w) (hg : goodWord w = true) : w ∈ ztbl := List.mem_filter.mpr ⟨List.mem_of_getElem? h, hg⟩
theorem zNm : ∀ q ∈ zcl, ∀ a, a < q.2.2 → ∀ b, b < q.2.2 → a ≠ b → (q.2.1 a).2.1 ≠ (q.2.1 b).2.1 := by decide +kernel
theorem zTy : ∀ ci, ci < 13 → ∀ k, k < zN ci → ((zcl[ci]?).map fun q => parseFieldDescriptor (q.2.1 k).2.2.1) = some (some (zty ci k)) := by decide +kernel
theorem zTy' {ci : Nat} {q : vw_C} (h : zcl[ci]? = some q) : ∀ k, k < q.2.2 → parseFieldDescriptor (q.2.1 k).2.2.1 = some (zty ci k) := by
  intro k hk
  have h1 := zTy ci (zfit ci q h) k (by rw [zN_eq h]; exact hk)
  rw [h] at h1
  exact Option.some.inj h1
