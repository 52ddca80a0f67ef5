/-! ===== rules: a machine over the signs, and codes ===== -/
def rkO (o : Nat) : Nat := if o = 60 ∨ o = 61 ∨ o = 62 then 1 else if o = 43 ∨ o = 45 then 2 else if o = 42 ∨ o = 47 then 3 else if o = 256 then 4 else 0
theorem rkO_le {c : Nat} (h : c < 256) : rkO c ≤ 3 := by
  unfold rkO
  repeat' split
  all_goals omega
def lkO (c : Nat) : Nat := if c = 110 then 0 else if c = 102 then 1 else if c = 108 then 2 else if c = 116 then 3 else if c = 119 then 4 else if c = 104 then 5 else if c = 118 then 6 else 7
/-- behind a thing, digits, compared (this level first), code, what waits (the top first) -/
abbrev QM : Type := Bool × Nat × List Bool × List Nat × List Nat
abbrev qd (M : QM) : Nat := M.2.1
abbrev qc (M : QM) : List Bool := M.2.2.1
abbrev qk (M : QM) : List Nat := M.2.2.2.1
abbrev qw (M : QM) : List Nat := M.2.2.2.2
def rel (r : Nat) (k : List Nat) : List Nat → List Nat × List Nat
  | [] => (k, [])
  | o :: w => if r ≤ rkO o then rel r (k ++ [2000 + o]) w else (k, o :: w)
def len1 (k : List Nat) (d : Nat) : List Nat := k.dropLast ++ [k.getLastD 0 * 10 + d]
def qGo (M : QM) (c : Nat) : Option QM :=
  if dg10 c then (if 1 ≤ qd M ∧ qd M ≤ 2 then some (true, qd M + 1, qc M, len1 (qk M) (c - 48), qw M) else none)
  else if c = 41 then (match qc M with
    | _ :: b :: cs => some (true, 0, b :: cs, (rel 1 (qk M) (qw M)).1, (rel 1 (qk M) (qw M)).2.tail)
    | _ => none)
  else if rkO c = 0 then none
  else if rkO c = 1 ∧ (qc M).headD false = true then none
  else some (false, qd M, if rkO c = 1 then true :: (qc M).tail else qc M, (rel (rkO c) (qk M) (qw M)).1, c :: (rel (rkO c) (qk M) (qw M)).2)
def qBe (M : QM) (c : Nat) : Option QM :=
  if c = 45 then some (false, qd M, qc M, qk M, 256 :: qw M)
  else if c = 40 then (if (qc M).length ≤ 4 then some (false, qd M, false :: qc M, qk M, 40 :: qw M) else none)
  else if dg10 c then some (true, 1, qc M, qk M ++ [c - 48], qw M)
  else if lkO c < 7 then some (true, 0, qc M, qk M ++ [1000 + lkO c], qw M)
  else none
def qStep (M : QM) (c : Nat) : Option QM := if M.1 then qGo M c else qBe M c
/-- the machine goes from p to p' -/
def qRun (v : List Nat) : Nat → QM → Nat → Option QM
  | 0, M, _ => some M
  | k + 1, M, p => if p < v.length then (qStep M (v.getD p 0)).bind (fun M' => qRun v k M' (p + 1)) else none
theorem qRun_s {v : List Nat} {k p : Nat} {M : QM} : qRun v (k + 1) M p = if p < v.length then (qStep M (v.getD p 0)).bind (fun M' => qRun v k M' (p + 1)) else none := rfl
theorem qRun_add (v : List Nat) : ∀ (a b : Nat) (M : QM) (p : Nat), qRun v (a + b) M p = (qRun v a M p).bind (fun M' => qRun v b M' (p + a))
  | 0, b, M, p => by rw [Nat.zero_add]; rfl
  | a + 1, b, M, p => by
    rw [show a + 1 + b = (a + b) + 1 by omega, qRun_s, qRun_s]
    by_cases h : p < v.length
    · rw [if_pos h, if_pos h]
      cases hq : qStep M (v.getD p 0) with
      | none => rfl
      | some M' =>
        rw [Option.bind_some, Option.bind_some, qRun_add v a b M' (p + 1), show p + 1 + a = p + (a + 1) by omega]
    · rw [if_neg h, if_neg h]; rfl
def Reach (v : List Nat) (M : QM) (p : Nat) (M' : QM) (p' : Nat) : Prop := p ≤ p' ∧ qRun v (p' - p) M p = some M'
theorem Reach.rfl {v : List Nat} {M : QM} {p : Nat} : Reach v M p M p := ⟨Nat.le_refl _, by rw [Nat.sub_self]; rfl⟩
theorem Reach.trans {v : List Nat} {M M' M'' : QM} {p p' p'' : Nat} (h : Reach v M p M' p') (h' : Reach v M' p' M'' p'') : Reach v M p M'' p'' := by
  refine ⟨Nat.le_trans h.1 h'.1, ?_⟩
  have h1 := h.1
  have h2 := h'.1
  rw [show p'' - p = (p' - p) + (p'' - p') by omega, qRun_add, h.2, Option.bind_some, show p + (p' - p) = p' by omega, h'.2]
theorem Reach.step {v : List Nat} {M M' : QM} {p : Nat} (hp : p < v.length) (h : qStep M (v.getD p 0) = some M') : Reach v M p M' (p + 1) := by
  refine ⟨Nat.le_succ _, ?_⟩
  rw [show p + 1 - p = 0 + 1 by omega, qRun_s, if_pos hp, h]; rfl
def FailAt (v : List Nat) (M : QM) (p e : Nat) : Prop := ∃ M', Reach v M p M' e ∧ (e < v.length ∧ qStep M' (v.getD e 0) = none ∨ e = v.length ∧ (M'.1 = false ∨ 2 ≤ (qc M').length))
theorem Reach.fail {v : List Nat} {M M' : QM} {p p' e : Nat} (h : Reach v M p M' p') (h' : FailAt v M' p' e) : FailAt v M p e := by
  obtain ⟨M2, h1, h2⟩ := h'
  exact ⟨M2, h.trans h1, h2⟩
theorem rel_app {r : Nat} : ∀ (pend k w : List Nat), (∀ o, o ∈ pend → r ≤ rkO o) → rel r k (pend ++ w) = rel r (k ++ pend.map (2000 + ·)) w
  | [], k, w, _ => by simp
  | o :: pend, k, w, h => by
    rw [List.cons_append]
    show rel r k (o :: (pend ++ w)) = _
    conv => lhs; unfold rel
    rw [if_pos (h o (List.mem_cons_self)), rel_app pend _ w (fun x hx => h x (List.mem_cons_of_mem _ hx)), List.map_cons, List.append_assoc]; rfl
theorem rel_stop {r : Nat} {k w : List Nat} (h : ∀ o w', w = o :: w' → rkO o < r) : rel r k w = (k, w) := by
  cases w with
  | nil => rfl
  | cons o w' =>
    unfold rel
    rw [if_neg (by have := h o w' rfl; omega)]
def Pre (s deep : Nat) (M : QM) : Prop := M.1 = false ∧ (qc M).length = deep + 1 ∧ (s ≤ 2 → ∀ o w, qw M = o :: w → rkO o ≤ s)
def Pend (s : Nat) (M M' : QM) (code : List Nat) : Prop := ∃ pend, qw M' = pend ++ qw M ∧ (∀ o, o ∈ pend → s + 1 ≤ rkO o) ∧ qk M' ++ pend.map (2000 + ·) = qk M ++ code
def DgS (v : List Nat) (M : QM) (p : Nat) : Prop := p < v.length → dg10 (v.getD p 0) = true → ¬ (1 ≤ qd M ∧ qd M ≤ 2)
def SimB (v : List Nat) (s deep p p' : Nat) (code : List Nat) : Prop := ∀ M, Pre s deep M → ∃ M', Reach v M p M' p' ∧ M'.1 = true ∧ qc M' = qc M ∧ Pend s M M' code ∧ DgS v M' p'
def Fl (v : List Nat) (s deep p e : Nat) : Prop := ∀ M, Pre s deep M → FailAt v M p e
def rk (v : List Nat) (p : Nat) : Nat := if p < v.length then rkO (v.getD p 0) else 0
def SimH (v : List Nat) (deep p p' : Nat) (code : List Nat) : Prop := ∀ M, Pre 0 deep M → (qc M).headD false = false → ∃ M', Reach v M p M' p' ∧ M'.1 = true ∧ (qc M').length = (qc M).length ∧ (qc M').tail = (qc M).tail ∧ Pend 0 M M' code ∧ DgS v M' p' ∧ (rk v p' = 1 → (qc M').headD false = true)
def FlH (v : List Nat) (deep p e : Nat) : Prop := ∀ M, Pre 0 deep M → (qc M).headD false = false → FailAt v M p e
theorem Pre.up {s s' deep : Nat} {M : QM} (h : Pre s deep M) (hs : s ≤ s') : Pre s' deep M := ⟨h.1, h.2.1, fun x o w e => Nat.le_trans (h.2.2 (by omega) o w e) hs⟩
theorem SimB.down {v : List Nat} {s s' deep p p' : Nat} {code : List Nat} (h : SimB v s' deep p p' code) (hs : s ≤ s') : SimB v s deep p p' code := fun M hM => by
  obtain ⟨M', h1, h2, h3, ⟨pend, h4, h5, h6⟩, h7⟩ := h M (hM.up hs)
  exact ⟨M', h1, h2, h3, ⟨pend, h4, fun o ho => by have := h5 o ho; omega, h6⟩, h7⟩
theorem Fl.down {v : List Nat} {s s' deep p e : Nat} (h : Fl v s' deep p e) (hs : s ≤ s') : Fl v s deep p e := fun M hM => h M (hM.up hs)
/-! things -/
theorem step_neg {M : QM} (h : M.1 = false) : qStep M 45 = some (false, qd M, qc M, qk M, 256 :: qw M) := by
  unfold qStep qBe; rw [h]; rfl
theorem sim_neg {v : List Nat} {deep p p' : Nat} {code : List Nat} (hp : p < v.length) (hc : v.getD p 0 = 45) (h : SimB v 3 deep (p + 1) p' code) : SimB v 3 deep p p' (code ++ [2256]) := fun M hM => by
  have h1 : Reach v M p (false, qd M, qc M, qk M, 256 :: qw M) (p + 1) := Reach.step hp (by rw [hc]; exact step_neg hM.1)
  obtain ⟨M', r1, r2, r3, ⟨pend, r4, r5, r6⟩, r7⟩ := h (false, qd M, qc M, qk M, 256 :: qw M) ⟨rfl, hM.2.1, fun x => absurd x (by omega)⟩
  refine ⟨M', h1.trans r1, r2, r3, ⟨pend ++ [256], by rw [r4]; simp, fun o ho => ?_, ?_⟩, r7⟩
  · rw [List.mem_append, List.mem_singleton] at ho
    rcases ho with ho | rfl
    · exact r5 o ho
    · decide
  · rw [List.map_append, ← List.append_assoc, r6, List.append_assoc]; rfl
theorem fl_neg {v : List Nat} {deep p e : Nat} (hp : p < v.length) (hc : v.getD p 0 = 45) (h : Fl v 3 deep (p + 1) e) : Fl v 3 deep p e := fun M hM => by
  have h1 : Reach v M p (false, qd M, qc M, qk M, 256 :: qw M) (p + 1) := Reach.step hp (by rw [hc]; exact step_neg hM.1)
  exact h1.fail (h _ ⟨rfl, hM.2.1, fun x => absurd x (by omega)⟩)
theorem sim_let {v : List Nat} {deep p : Nat} (hp : p < v.length) (h1 : v.getD p 0 ≠ 45) (h2 : v.getD p 0 ≠ 40) (h3 : dg10 (v.getD p 0) = false) (h4 : lkO (v.getD p 0) < 7) : SimB v 3 deep p (p + 1) [1000 + lkO (v.getD p 0)] := fun M hM => by
  refine ⟨(true, 0, qc M, qk M ++ [1000 + lkO (v.getD p 0)], qw M), Reach.step hp ?_, rfl, rfl, ⟨[], rfl, fun o ho => absurd ho List.not_mem_nil, by simp⟩, fun _ _ h => absurd (show 1 ≤ 0 from h.1) (by omega)⟩
  unfold qStep qBe
  rw [hM.1, if_neg (by decide), if_neg h1, if_neg h2, h3, if_neg (by decide), if_pos h4]
theorem fl_no {v : List Nat} {deep p : Nat} (hp : p ≤ v.length) (hd : deep ≤ 4) (h1 : p < v.length → v.getD p 0 ≠ 45 ∧ (v.getD p 0 = 40 → 4 ≤ deep) ∧ dg10 (v.getD p 0) = false ∧ ¬ lkO (v.getD p 0) < 7) : Fl v 3 deep p p := fun M hM => by
  refine ⟨M, Reach.rfl, ?_⟩
  by_cases e : p < v.length
  · refine Or.inl ⟨e, ?_⟩
    obtain ⟨a, b, c, d⟩ := h1 e
    unfold qStep qBe
    rw [hM.1, if_neg (by decide), if_neg a]
    by_cases e2 : v.getD p 0 = 40
    · rw [if_pos e2, if_neg (by rw [hM.2.1]; have := b e2; omega)]
    · rw [if_neg e2, c, if_neg (by decide), if_neg d]
  · exact Or.inr ⟨by omega, Or.inl hM.1⟩
/-- a number of one to three digits -/
theorem step_dig {M : QM} {c : Nat} (h : M.1 = true) (hc : dg10 c = true) (h1 : 1 ≤ qd M) (h2 : qd M ≤ 2) : qStep M c = some (true, qd M + 1, qc M, len1 (qk M) (c - 48), qw M) := by
  unfold qStep qGo; rw [h, if_pos rfl, hc, if_pos rfl, if_pos ⟨h1, h2⟩]
theorem len1_app {k : List Nat} {a d : Nat} : len1 (k ++ [a]) d = k ++ [a * 10 + d] := by
  unfold len1
  rw [List.dropLast_concat, List.getLastD_eq_getLast?, List.getLast?_concat]; rfl
def SimD (v : List Nat) (deep p q n : Nat) (x : Nat) : Prop := ∀ M, Pre 3 deep M → ∃ M', Reach v M p M' q ∧ M'.1 = true ∧ qc M' = qc M ∧ qw M' = qw M ∧ qk M' = qk M ++ [x] ∧ qd M' = n
theorem simD_0 {v : List Nat} {deep p : Nat} (hp : p < v.length) (hc : dg10 (v.getD p 0) = true) : SimD v deep p (p + 1) 1 (v.getD p 0 - 48) := fun M hM => by
  refine ⟨(true, 1, qc M, qk M ++ [v.getD p 0 - 48], qw M), Reach.step hp ?_, rfl, rfl, rfl, rfl, rfl⟩
  have h := of_decide_eq_true hc
  unfold qStep qBe
  rw [hM.1, if_neg (by decide), if_neg (by omega), if_neg (by omega), hc, if_pos rfl]
theorem simD_s {v : List Nat} {deep p q n x : Nat} (h : SimD v deep p q n x) (hq : q < v.length) (hc : dg10 (v.getD q 0) = true) (h1 : 1 ≤ n) (h2 : n ≤ 2) : SimD v deep p (q + 1) (n + 1) (x * 10 + (v.getD q 0 - 48)) := fun M hM => by
  obtain ⟨M', r1, r2, r3, r4, r5, r6⟩ := h M hM
  refine ⟨_, r1.trans (Reach.step hq (step_dig r2 hc (by omega) (by omega))), rfl, r3, r4, ?_, by show qd M' + 1 = _; omega⟩
  show len1 (qk M') _ = _
  rw [r5, len1_app]
theorem simD_end {v : List Nat} {deep p q n x : Nat} (h : SimD v deep p q n x) (hs : q < v.length → dg10 (v.getD q 0) = true → 3 ≤ n) : SimB v 3 deep p q [x] := fun M hM => by
  obtain ⟨M', r1, r2, r3, r4, r5, r6⟩ := h M hM
  exact ⟨M', r1, r2, r3, ⟨[], r4, fun o ho => absurd ho List.not_mem_nil, by rw [r5]; simp⟩, fun a b c => by have := hs a b; omega⟩
/-! what is in ( ) -/
theorem step_op {M : QM} (h : M.1 = false) (hl : (qc M).length ≤ 4) : qStep M 40 = some (false, qd M, false :: qc M, qk M, 40 :: qw M) := by
  unfold qStep qBe; rw [h, if_neg (by decide), if_neg (by decide), if_pos rfl, if_pos hl]
theorem pre_op {M : QM} {deep : Nat} (hM : Pre 3 deep M) : Pre 0 (deep + 1) (false, qd M, false :: qc M, qk M, 40 :: qw M) := ⟨rfl, by show (qc M).length + 1 = _; rw [hM.2.1], fun _ o w e => by
  have : 40 = o := (List.cons.inj e).1
  subst this; decide⟩
theorem close_step {M M' : QM} {code : List Nat} {b : Bool} (h1 : M'.1 = true) (h2 : (qc M').length = (qc M).length + 1) (h3 : (qc M').tail = qc M) (hne : qc M ≠ []) (hP : Pend 0 (false, qd M, b :: qc M, qk M, 40 :: qw M) M' code) : qStep M' 41 = some (true, 0, qc M, qk M ++ code, qw M) := by
  obtain ⟨pend, r4, r5, r6⟩ := hP
  unfold qStep qGo
  rw [h1, if_pos rfl, if_neg (show ¬ dg10 41 = true by decide), if_pos rfl]
  have hr : rel 1 (qk M') (qw M') = (qk M ++ code, 40 :: qw M) := by
    rw [r4, rel_app _ _ _ r5, r6]
    exact rel_stop (fun o w e => by have : 40 = o := (List.cons.inj e).1; subst this; decide)
  rw [hr]
  obtain ⟨x, cs, e⟩ : ∃ x cs, qc M' = x :: cs := by
    cases hq : qc M' with
    | nil => rw [hq] at h2; simp at h2
    | cons x cs => exact ⟨x, cs, rfl⟩
  rw [e] at h3 ⊢
  have h3' : cs = qc M := h3
  subst h3'
  cases hq : qc M with
  | nil => exact absurd hq hne
  | cons y ys => rfl
theorem sim_par {v : List Nat} {deep p p' : Nat} {code : List Nat} (hd : deep < 4) (hp : p < v.length) (hc : v.getD p 0 = 40) (h : SimH v (deep + 1) (p + 1) p' code) (hp' : p' < v.length) (hc' : v.getD p' 0 = 41) : SimB v 3 deep p (p' + 1) code := fun M hM => by
  have h1 : Reach v M p (false, qd M, false :: qc M, qk M, 40 :: qw M) (p + 1) := Reach.step hp (by rw [hc]; exact step_op hM.1 (by rw [hM.2.1]; omega))
  obtain ⟨M', r1, r2, r3, r4, r5, r6, r7⟩ := h _ (pre_op hM) rfl
  have hne : qc M ≠ [] := by intro e; have := hM.2.1; rw [e] at this; simp at this
  refine ⟨(true, 0, qc M, qk M ++ code, qw M), (h1.trans r1).trans (Reach.step hp' (by rw [hc']; exact close_step r2 r3 r4 hne r5)), rfl, rfl, ⟨[], rfl, fun o ho => absurd ho List.not_mem_nil, by simp⟩, fun _ _ x => absurd (show 1 ≤ 0 from x.1) (by omega)⟩
theorem fl_par {v : List Nat} {deep p e : Nat} (hd : deep < 4) (hp : p < v.length) (hc : v.getD p 0 = 40) (h : FlH v (deep + 1) (p + 1) e) : Fl v 3 deep p e := fun M hM => by
  have h1 : Reach v M p (false, qd M, false :: qc M, qk M, 40 :: qw M) (p + 1) := Reach.step hp (by rw [hc]; exact step_op hM.1 (by rw [hM.2.1]; omega))
  exact h1.fail (h _ (pre_op hM) rfl)
/-- behind a whole expression another sign is refused -/
theorem stop_step {v : List Nat} {M : QM} {p : Nat} (hp : p < v.length) (h1 : M.1 = true) (hD : DgS v M p) (h41 : v.getD p 0 ≠ 41) (h2 : rk v p ≠ 2) (h3 : rk v p ≠ 3) (h4 : rk v p = 1 → (qc M).headD false = true) (h5 : v.getD p 0 < 256) : qStep M (v.getD p 0) = none := by
  unfold rk at h2 h3 h4
  rw [if_pos hp] at h2 h3 h4
  unfold qStep qGo
  rw [h1, if_pos rfl]
  by_cases hd : dg10 (v.getD p 0) = true
  · rw [if_pos hd, if_neg (hD hp hd)]
  · rw [if_neg hd, if_neg h41]
    by_cases e0 : rkO (v.getD p 0) = 0
    · rw [if_pos e0]
    · rw [if_neg e0]
      have : rkO (v.getD p 0) = 1 := by have := rkO_le h5; omega
      rw [if_pos ⟨this, h4 this⟩]
theorem fl_par2 {v : List Nat} {deep p p' : Nat} {code : List Nat} (hd : deep < 4) (hp : p < v.length) (hc : v.getD p 0 = 40) (h : SimH v (deep + 1) (p + 1) p' code) (hp' : p' ≤ v.length) (hc' : p' < v.length → v.getD p' 0 ≠ 41 ∧ v.getD p' 0 < 256) (h2 : rk v p' ≠ 2) (h3 : rk v p' ≠ 3) : Fl v 3 deep p p' := fun M hM => by
  have h1 : Reach v M p (false, qd M, false :: qc M, qk M, 40 :: qw M) (p + 1) := Reach.step hp (by rw [hc]; exact step_op hM.1 (by rw [hM.2.1]; omega))
  obtain ⟨M', r1, r2, r3, r4, r5, r6, r7⟩ := h _ (pre_op hM) rfl
  refine ⟨M', h1.trans r1, ?_⟩
  by_cases e : p' < v.length
  · exact Or.inl ⟨e, stop_step e r2 r6 (hc' e).1 h2 h3 r7 (hc' e).2⟩
  · refine Or.inr ⟨by omega, Or.inr ?_⟩
    rw [r3]
    show 2 ≤ (qc M).length + 1
    rw [hM.2.1]; omega
/-! operators -/
theorem step_bin {v : List Nat} {M M1 : QM} {p s deep : Nat} {c1 : List Nat} (hp : p < v.length) (hs : s ≤ 2) (hr : rkO (v.getD p 0) = s + 1) (hM : Pre s deep M) (h1 : M1.1 = true) (h2 : s = 0 → (qc M1).headD false = false) (hP : Pend s M M1 c1) : qStep M1 (v.getD p 0) = some (false, qd M1, if s = 0 then true :: (qc M1).tail else qc M1, qk M ++ c1, v.getD p 0 :: qw M) := by
  obtain ⟨pend, r4, r5, r6⟩ := hP
  have hdig : ¬ dg10 (v.getD p 0) = true := by
    intro h
    have h := of_decide_eq_true h
    unfold rkO at hr
    rw [if_neg (by omega), if_neg (by omega), if_neg (by omega), if_neg (by omega)] at hr
    omega
  have h41 : v.getD p 0 ≠ 41 := by
    intro h
    rw [h] at hr
    have : rkO 41 = 0 := by decide
    omega
  have hrel : rel (s + 1) (qk M1) (qw M1) = (qk M ++ c1, qw M) := by
    rw [r4, rel_app _ _ _ r5, r6]
    exact rel_stop (fun o w e => by have := hM.2.2 hs o w e; omega)
  unfold qStep qGo
  rw [h1, if_pos rfl, if_neg hdig, if_neg h41, hr, if_neg (by omega), hrel]
  by_cases e : s = 0
  · subst e
    rw [if_neg (by rintro ⟨_, x⟩; rw [h2 rfl] at x; cases x), if_pos rfl, if_pos rfl]
  · rw [if_neg (by omega), if_neg (by omega), if_neg e]
theorem pre_bin {s deep : Nat} {M M1 : QM} {c : Nat} {k : List Nat} {cs : List Bool} (hs : s ≤ 2) (hr : rkO c = s + 1) (hl : cs.length = deep + 1) : Pre (s + 1) deep (false, qd M1, cs, k, c :: qw M) := ⟨rfl, hl, fun _ o w e => by
  have : c = o := (List.cons.inj e).1
  subst this; omega⟩
theorem pend_bin {s : Nat} {M M1 M2 : QM} {c : Nat} {c1 c2 : List Nat} {cs : List Bool} (hr : rkO c = s + 1) (h : Pend (s + 1) (false, qd M1, cs, qk M ++ c1, c :: qw M) M2 c2) : Pend s M M2 (c1 ++ c2 ++ [2000 + c]) := by
  obtain ⟨pend, r4, r5, r6⟩ := h
  refine ⟨pend ++ [c], by rw [r4]; simp, fun o ho => ?_, ?_⟩
  · rw [List.mem_append, List.mem_singleton] at ho
    rcases ho with ho | rfl
    · have := r5 o ho; omega
    · omega
  · rw [List.map_append, ← List.append_assoc, r6]
    show qk M ++ c1 ++ c2 ++ [2000 + c] = qk M ++ (c1 ++ c2 ++ [2000 + c])
    simp only [List.append_assoc]
theorem sim_op {v : List Nat} {s deep p p1 p2 : Nat} {c1 c2 : List Nat} (hs : s = 1 ∨ s = 2) (h1 : SimB v s deep p p1 c1) (hp : p1 < v.length) (hr : rkO (v.getD p1 0) = s + 1) (h2 : SimB v (s + 1) deep (p1 + 1) p2 c2) : SimB v s deep p p2 (c1 ++ c2 ++ [2000 + v.getD p1 0]) := fun M hM => by
  obtain ⟨M1, a1, a2, a3, a4, a5⟩ := h1 M hM
  have hst := step_bin hp (by omega) hr hM a2 (fun e => by omega) a4
  rw [if_neg (by omega)] at hst
  obtain ⟨M2, b1, b2, b3, b4, b5⟩ := h2 _ (pre_bin (M := M) (M1 := M1) (k := qk M ++ c1) (cs := qc M1) (by omega) hr (by rw [a3]; exact hM.2.1))
  exact ⟨M2, (a1.trans (Reach.step hp hst)).trans b1, b2, by rw [b3]; exact a3, pend_bin hr b4, b5⟩
theorem fl_op {v : List Nat} {s deep p p1 e : Nat} {c1 : List Nat} (hs : s = 1 ∨ s = 2) (h1 : SimB v s deep p p1 c1) (hp : p1 < v.length) (hr : rkO (v.getD p1 0) = s + 1) (h2 : Fl v (s + 1) deep (p1 + 1) e) : Fl v s deep p e := fun M hM => by
  obtain ⟨M1, a1, a2, a3, a4, a5⟩ := h1 M hM
  have hst := step_bin hp (by omega) hr hM a2 (fun e => by omega) a4
  rw [if_neg (by omega)] at hst
  exact (a1.trans (Reach.step hp hst)).fail (h2 _ (pre_bin (M := M) (M1 := M1) (k := qk M ++ c1) (cs := qc M1) (by omega) hr (by rw [a3]; exact hM.2.1)))
theorem sim_held {v : List Nat} {deep p p' : Nat} {code : List Nat} (h : SimB v 1 deep p p' code) (hr : rk v p' ≠ 1) : SimH v deep p p' code := fun M hM _ => by
  obtain ⟨M', h1, h2, h3, h4, h5⟩ := (h.down (Nat.zero_le 1)) M hM
  exact ⟨M', h1, h2, by rw [h3], by rw [h3], h4, h5, fun x => absurd x hr⟩
theorem sim_cmp {v : List Nat} {deep p p1 p2 : Nat} {c1 c2 : List Nat} (h1 : SimB v 1 deep p p1 c1) (hp : p1 < v.length) (hr : rkO (v.getD p1 0) = 1) (h2 : SimB v 1 deep (p1 + 1) p2 c2) : SimH v deep p p2 (c1 ++ c2 ++ [2000 + v.getD p1 0]) := fun M hM hh => by
  obtain ⟨M1, a1, a2, a3, a4, a5⟩ := (h1.down (Nat.zero_le 1)) M hM
  have hst := step_bin hp (by omega) hr hM a2 (fun e => by rw [a3]; exact hh) a4
  rw [if_pos rfl] at hst
  have hne : (qc M1).length = deep + 1 := by rw [a3]; exact hM.2.1
  obtain ⟨M2, b1, b2, b3, b4, b5⟩ := h2 _ (pre_bin (s := 0) (deep := deep) (M := M) (M1 := M1) (k := qk M ++ c1) (cs := true :: (qc M1).tail) (by omega) hr (by rw [List.length_cons, List.length_tail]; omega))
  refine ⟨M2, (a1.trans (Reach.step hp hst)).trans b1, b2, ?_, ?_, pend_bin (s := 0) hr b4, b5, fun _ => by rw [b3]; rfl⟩
  · rw [b3]
    show (qc M1).tail.length + 1 = _
    rw [List.length_tail, hM.2.1]; omega
  · rw [b3]
    show (qc M1).tail = _
    rw [a3]
theorem fl_cmp {v : List Nat} {deep p p1 e : Nat} {c1 : List Nat} (h1 : SimB v 1 deep p p1 c1) (hp : p1 < v.length) (hr : rkO (v.getD p1 0) = 1) (h2 : Fl v 1 deep (p1 + 1) e) : FlH v deep p e := fun M hM hh => by
  obtain ⟨M1, a1, a2, a3, a4, a5⟩ := (h1.down (Nat.zero_le 1)) M hM
  have hst := step_bin hp (by omega) hr hM a2 (fun e => by rw [a3]; exact hh) a4
  rw [if_pos rfl] at hst
  have hne : (qc M1).length = deep + 1 := by rw [a3]; exact hM.2.1
  exact (a1.trans (Reach.step hp hst)).fail (h2 _ (pre_bin (s := 0) (deep := deep) (M := M) (M1 := M1) (k := qk M ++ c1) (cs := true :: (qc M1).tail) (by omega) hr (by rw [List.length_cons, List.length_tail]; omega)))
theorem fl_held {v : List Nat} {deep p e : Nat} (h : Fl v 1 deep p e) : FlH v deep p e := fun M hM _ => (h.down (Nat.zero_le 1)) M hM
/-! codes -/
def jn (o : Nat) (a b : Int32) : Int32 := if o = 42 then a * b else if o = 43 then a + b else if o = 45 then a - b else if o = 60 then (if b ≤ a then nI 0 else nI 1) else if o = 61 then (if a = b then nI 1 else nI 0) else if o = 62 then (if a ≤ b then nI 0 else nI 1) else if b = 0 then nI 0 else a / b
def evT (ak : Nat → Int32) (t : Nat) (s : List Int32) : List Int32 := if t < 1000 then nI t :: s else if t < 2000 then ak (t - 1000) :: s else if t = 2256 then (match s with
    | a :: s' => -a :: s'
    | [] => [])
  else (match s with
    | b :: a :: s' => jn (t - 2000) a b :: s'
    | s => s)
def ev (ak : Nat → Int32) : List Nat → List Int32 → List Int32
  | [], s => s
  | t :: ts, s => ev ak ts (evT ak t s)
theorem ev_app (ak : Nat → Int32) : ∀ (a b : List Nat) (s : List Int32), ev ak (a ++ b) s = ev ak b (ev ak a s)
  | [], b, s => rfl
  | t :: a, b, s => ev_app ak a b (evT ak t s)
def okT (t : Nat) : Prop := t < 1000 ∨ (1000 ≤ t ∧ t < 1007) ∨ ∃ o, t = 2000 + o ∧ 0 < rkO o
def evIs (ak : Nat → Int32) (code : List Nat) (x : Int32) : Prop := (∀ s, ev ak code s = x :: s) ∧ ∀ t, t ∈ code → okT t
theorem ev_num {ak : Nat → Int32} {n : Nat} (h : n < 1000) : evIs ak [n] (nI n) := ⟨fun s => by unfold ev evT; rw [if_pos h]; rfl, fun t ht => by rw [List.mem_singleton] at ht; subst ht; exact Or.inl h⟩
theorem ev_let {ak : Nat → Int32} {n : Nat} (h : n < 7) : evIs ak [1000 + n] (ak n) := ⟨fun s => by unfold ev evT; rw [if_neg (by omega), if_pos (by omega), show 1000 + n - 1000 = n by omega]; rfl, fun t ht => by rw [List.mem_singleton] at ht; subst ht; exact Or.inr (Or.inl (by omega))⟩
theorem ev_neg {ak : Nat → Int32} {c : List Nat} {x : Int32} (h : evIs ak c x) : evIs ak (c ++ [2256]) (-x) := ⟨fun s => by rw [ev_app, h.1]; rfl, fun t ht => by
  rw [List.mem_append, List.mem_singleton] at ht
  rcases ht with ht | rfl
  · exact h.2 t ht
  · exact Or.inr (Or.inr ⟨256, rfl, by decide⟩)⟩
theorem ev_op {ak : Nat → Int32} {c1 c2 : List Nat} {x y : Int32} {o : Nat} (h1 : evIs ak c1 x) (h2 : evIs ak c2 y) (ho : 0 < rkO o) (h3 : o ≠ 256) : evIs ak (c1 ++ c2 ++ [2000 + o]) (jn o x y) := ⟨fun s => by
  rw [ev_app, ev_app, h1.1, h2.1]
  show evT ak (2000 + o) (y :: x :: s) = _
  unfold evT
  rw [if_neg (by omega), if_neg (by omega), if_neg (by omega), show 2000 + o - 2000 = o by omega], fun t ht => by
  rw [List.mem_append, List.mem_append, List.mem_singleton] at ht
  rcases ht with (ht | ht) | rfl
  · exact h1.2 t ht
  · exact h2.2 t ht
  · exact Or.inr (Or.inr ⟨o, rfl, ho⟩)⟩
