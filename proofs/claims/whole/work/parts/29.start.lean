/-! ===== the start of the law ===== -/
def R_law : String := "ParrotsLastLaw"
def lw_P (b : Addr) (xs : List Int32) (args : Array Value) (s : State) : Prop := args = #[.ref b] ∧ s.IntsAt b xs ∧ xs.length ≤ 2560 ∧ (Jvm.Cond.and given_1 narrow_1).before args s = true
def lw_Q (_ : Array Value) (s : State) (o : Outcome) (t : State) : Prop := o = .returned (some (.int 1)) ∧ Framed s o t [] 601024 7293034
def lw_Z (below : List Frame) (a : Array Value) (s : State) : State → Prop := fun t => ∃ o, t.status = .running ∧ Ended t below o ∧ lw_Q a s o t
def lw_At (p : Program) (s : State) (m : MethodId) (meth : Method) (c : Code) (b L : Nat) (xs : Nat → Int32) : Prop :=
  p.tables.exec = Jvm.exec ∧ c.code = code ∧ meth.sig.returnType = ret ∧ c.maxLocals = 8 ∧ s.vm.findClass R_law = some m.cls ∧ (∀ w ∈ lw_tbl, w.before #[Value.ref b] s = true) ∧ va_X b L xs s s.heap ∧ b < s.heap.size ∧ meth.locks = false ∧ (Jvm.Cond.and given_1 narrow_1).before #[Value.ref b] s = true
/-- the world at the law's start: the script alone -/
def zstart (b L : Nat) (xs : Nat → Int32) (B0 : Nat) : ZS := (fun a => if a = b then some (28, L) else none, fun a j => if a = b then xs j else 0, fun _ _ => 0, fun _ _ => none, B0)
theorem zarr_p {s : State} {args : Array Value} {ty : FieldType} (h : (Cond.arrayClass ty).before args s = true) (hn : ∀ c, (s.vm.findClass ("[" ++ ty.toString) = some c → va_RA s c ty)) : ∃ c, ArrOfT s c ty ∧ va_RA s c ty := by
  obtain ⟨c, k, comp, h1, h2, h3⟩ := Cond.arrayClass_spec h
  exact ⟨c, fun N z => ⟨(fun k h => by cases h), k, h2, comp, h3⟩, hn c h1⟩
theorem zarr_o {s : State} {C : String} (h : va_AO C s) : ∃ c, ArrOfT s c (.object C) ∧ va_RA s c (.object C) := by
  obtain ⟨comp, c, k, h1, h2, h3, h4, h5⟩ := Cond.arrayOver_spec h
  exact ⟨c, fun N z => ⟨(fun k h => by cases h), k, h3, comp, h4⟩, k, comp, h3, h4, h1, h5⟩
theorem zarr_a {s : State} (h : zAOA s) : ∃ c, ArrOfT s c (.array .int) ∧ va_RA s c (.array .int) := by
  obtain ⟨comp, c, k, h1, h2, h3, h4, h5⟩ := arrayOverA_spec h
  exact ⟨c, fun N z => ⟨(fun k h => by cases h), k, h3, comp, h4⟩, h5⟩
set_option maxRecDepth 20000 in
theorem zi_in : ∀ q ∈ zcl, Cond.instantiable q.1 q.2.2 ∈ lw_tbl := by decide +kernel
set_option maxRecDepth 20000 in
theorem zn_in : ∀ q ∈ znest, Cond.methodLinkNest q.1 q.2.1 q.2.2.1 q.2.2.2 ∈ lw_tbl := by decide +kernel
set_option maxRecDepth 20000 in
theorem za_in : ∀ w ∈ [Cond.arrayClass .int, Cond.arrayClass .byte, Cond.arrayClass .boolean, Cond.arrayClass .char, Cond.arrayClass .long, Cond.arrayOver (.object RX0), Cond.arrayOver (.object RX6), Cond.arrayOver (.array .int)], w ∈ lw_tbl := by decide +kernel
/-- the classes and the world at the start -/
theorem zbegin {s : State} {b L : Nat} {xs : Nat → Int32} (hts : ∀ w ∈ lw_tbl, w.before #[Value.ref b] s = true) (hX : va_X b L xs s s.heap) (hg : (Jvm.Cond.and given_1 narrow_1).before #[Value.ref b] s = true) : ∃ D : ZD, D.1.2.1 = s ∧ D.1.2.2 = #[Value.ref b] ∧ zK D s ∧ zR D s.heap.size (zstart b L xs s.heap.size) s.heap := by
  have h0 : ∀ ci : Nat, ∃ p : ClassId × (Nat → Nat), ∀ q : vw_C, zcl[ci]? = some q → u_Kn s q.1 q.2.1 q.2.2 p.1 p.2 := by
    intro ci
    cases hq : zcl[ci]? with
    | none => exact ⟨(0, fun _ => 0), fun q h => by cases h⟩
    | some q =>
      have hm := List.mem_of_getElem? hq
      obtain ⟨c1, i1, hk⟩ := u_known (ws := lw_tbl) (n := q.2.2) hts (zIn0 q hm) (hts _ (zi_in q hm))
      exact ⟨(c1, i1), fun q' h => by cases h; exact hk⟩
  obtain ⟨G, hG⟩ := Classical.axiomOfChoice h0
  have A := fun w hw => hts w (za_in w hw)
  obtain ⟨k20, a20⟩ := zarr_p (A (.arrayClass .int) (by decide)) (fun c h => h)
  obtain ⟨k21, a21⟩ := zarr_p (A (.arrayClass .byte) (by decide)) (fun c h => h)
  obtain ⟨k22, a22⟩ := zarr_p (A (.arrayClass .boolean) (by decide)) (fun c h => h)
  obtain ⟨k23, a23⟩ := zarr_p (A (.arrayClass .char) (by decide)) (fun c h => h)
  obtain ⟨k24, a24⟩ := zarr_p (A (.arrayClass .long) (by decide)) (fun c h => h)
  have o25 : va_AO RX0 s := A (.arrayOver (.object RX0)) (by decide)
  have o26 : va_AO RX6 s := A (.arrayOver (.object RX6)) (by decide)
  have o27 : zAOA s := A (.arrayOver (.array .int)) (by decide)
  obtain ⟨k25, a25⟩ := zarr_o o25
  obtain ⟨k26, a26⟩ := zarr_o o26
  obtain ⟨k27, a27⟩ := zarr_a o27
  obtain ⟨scr, x1, x2, x3, x4, x5⟩ := hX
  refine ⟨((((fun c => (G c).1), (fun c => (G c).2)), s, #[Value.ref b]), fun k => match k with | 20 => k20 | 21 => k21 | 22 => k22 | 23 => k23 | 24 => k24 | 25 => k25 | 26 => k26 | 27 => k27 | _ => scr.cls), rfl, rfl, ?_, ?_⟩
  · refine ⟨fun c q hq => hG c q hq, fun k h1 h2 => ?_, ?_, fun q hq => va_Nw.of rfl (hts _ (zn_in q hq)), o25, o26, o27, ⟨hts, hg⟩, State.WarmedH.refl s⟩
    · rcases (show k = 20 ∨ k = 21 ∨ k = 22 ∨ k = 23 ∨ k = 24 ∨ k = 25 ∨ k = 26 ∨ k = 27 by omega) with e | e | e | e | e | e | e | e <;> subst e
      · exact a20
      · exact a21
      · exact a22
      · exact a23
      · exact a24
      · exact a25
      · exact a26
      · exact a27
    · obtain ⟨y1, k, y2, comp, y3⟩ := x2
      exact ⟨k, comp, y2, y3⟩
  · refine ⟨rfl, fun a q hq => ?_, fun a q hq hlt => ?_, Nat.le_refl _, Nat.le_refl _, fun q _ => rfl⟩
    · simp only [zstart, zsh] at hq
      by_cases e : a = b
      · subst e
        rw [if_pos rfl] at hq
        cases hq
        unfold zC
        rw [if_neg (show ¬ (28 < 13) by decide), if_neg (show ¬ (28 < 24) by decide), if_neg (show ¬ (28 = 24) by decide), if_neg (show ¬ (28 < 28) by decide)]
        obtain ⟨y1, k, y2, comp, y3⟩ := x2
        exact ⟨scr, x1, rfl, y1, x3, x4, fun j hj => by rw [x5 j hj]; simp [zstart, zgi]⟩
      · rw [if_neg e] at hq; cases hq
    · simp only [zstart, zsh] at hq
      by_cases e : a = b
      · rw [if_pos e] at hq
        cases hq
        exact absurd hlt (show ¬ (28 < 28) by decide)
      · rw [if_neg e] at hq; cases hq
theorem whole_from (hpure : ∀ (b L : Nat) (xs : Nat → Int32) (B0 : Nat), b < B0 → L ≤ 2560 → ∃ N g', f_L_law N b (zstart b L xs B0) = some (1, g')) {p : Program} {e : Env} {s : State} {m : MethodId} {below : List Frame} {meth : Method} {c : Code} (l : Launch) (hst : l.stackTraces = false) {b L : Nat} {xs : Nat → Int32} (hL : L ≤ 2560) (C0 : lw_At p s m meth c b L xs) : W p l e room_1 s m #[Value.ref b] below meth c s.heap [] 0 0 (lw_Z below #[Value.ref b] s) (entryFrame m ([Value.ref b] : List Value).toArray 8) := by
  obtain ⟨c1, c2, c3, c4, c5, c6, c7, c8, c9, c10⟩ := C0
  obtain ⟨D, d1, d2, hK, hR⟩ := zbegin c6 c7 c10
  obtain ⟨N, g', hf⟩ := hpure b L xs s.heap.size c8 hL
  have hl := lv_entry [Value.ref b] (n := 8) (Nat.le_of_ble_eq_true rfl)
  rw [lg_entry_eq]
  generalize (lg_sl [Value.ref b] ++ List.replicate (8 - (lg_sl [Value.ref b]).length) Slot.unset).toArray = ls at hl ⊢
  refine j_L_law (X := (p, l, e, room_1, s, m, #[Value.ref b], below, meth, c, (fun v _ => v = some (.int 1)), D, s.heap.size, lw_Z below #[Value.ref b] s)) hst N b (zstart b L xs s.heap.size) (K := fun r => r.1 = 1) (fun v g h => by rw [show v = 1 from h]) ⟨c1, c2, c4, c5, fun w hw => c6 w (List.mem_filter.mp hw).1, hK, c9, c3, fun h => (by cases h), (show 112 ≤ 2048 by decide), (show 64 * 112 ≤ 84000 by decide), (show 601024 ≤ 601024 by decide), (show 7293034 ≤ 7293034 by decide), Nat.le_refl _, ⟨by rw [show zs0 D = s from d1]; exact Nat.le_refl _, fun q _ => by rw [show zs0 D = s from d1]⟩, ?_⟩ (1, g') hf rfl ls s.heap [] 0 0 hl hR (fun _ h => by cases h) (Nat.le_refl _) (Nat.le_refl _)
  rintro t ⟨o, b1, b2, ⟨v, g1, e1, e2, e3⟩, L2, ⟨f1, f2, f3⟩, f4⟩
  refine ⟨o, b1, b2, ?_, f1, f2, f3.weaken (fun y hy hlt => ?_) (Nat.le_refl _) (Nat.le_refl _)⟩
  · rw [e1, e2]
  · exact absurd hlt (Nat.not_lt.mpr (f4 y hy))
