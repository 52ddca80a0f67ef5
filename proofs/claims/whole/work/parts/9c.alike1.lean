/-! ===== alike: rows in the same order ===== -/
def Rr (l l' : List Nat) (v w : Nat) : Prop := ix l v < ix l w ∧ ix l' v < ix l' w
def Ch (l l' : List Nat) (i j : Nat) (s : List Nat) : Prop := (∀ w, w ∈ s → mB l l' w ∧ i ≤ ix l w ∧ j ≤ ix l' w) ∧ s.Pairwise (Rr l l')
section CHN
variable {l l' s : List Nat} {i j i' j' k w : Nat}
theorem Ch.nil : Ch l l' i j [] := ⟨fun w hw => absurd hw List.not_mem_nil, List.Pairwise.nil⟩
theorem Ch.cons_iff : Ch l l' i j (w :: s) ↔ (mB l l' w ∧ i ≤ ix l w ∧ j ≤ ix l' w) ∧ Ch l l' (ix l w + 1) (ix l' w + 1) s := by
  unfold Ch
  rw [List.pairwise_cons]
  constructor
  · rintro ⟨h1, h2, h3⟩
    exact ⟨h1 w List.mem_cons_self, fun v hv => ⟨(h1 v (List.mem_cons_of_mem _ hv)).1, (h2 v hv).1, (h2 v hv).2⟩, h3⟩
  · rintro ⟨h1, h2, h3⟩
    refine ⟨fun v hv => ?_, fun v hv => ⟨(h2 v hv).2.1, (h2 v hv).2.2⟩, h3⟩
    rcases List.mem_cons.mp hv with e | hv
    · subst e; exact h1
    · have := h2 v hv
      exact ⟨this.1, by omega, by omega⟩
theorem Ch.mono (h : Ch l l' i j s) (hi : i' ≤ i) (hj : j' ≤ j) : Ch l l' i' j' s := ⟨fun w hw => ⟨(h.1 w hw).1, Nat.le_trans hi (h.1 w hw).2.1, Nat.le_trans hj (h.1 w hw).2.2⟩, h.2⟩
def Mx (l l' : List Nat) (i j k : Nat) : Prop := (∀ s, Ch l l' i j s → s.length ≤ k) ∧ ∃ s, Ch l l' i j s ∧ s.length = k
theorem Mx.uniq {k' : Nat} (h : Mx l l' i j k) (h' : Mx l l' i j k') : k = k' := by
  obtain ⟨s, h1, h2⟩ := h.2
  obtain ⟨s', h3, h4⟩ := h'.2
  have := h.1 s' h3
  have := h'.1 s h1
  omega
theorem Mx.stop (h : l.length ≤ i ∨ l'.length ≤ j) : Mx l l' i j 0 := ⟨fun s hs => by
  cases s with
  | nil => exact Nat.le_refl _
  | cons w r =>
    have := (Ch.cons_iff.mp hs).1
    have := this.1.1
    have := this
    omega, [], Ch.nil, rfl⟩
theorem Mx.same (hne : ∀ a b, a < b → b < l.length → l.getD a 0 ≠ l.getD b 0) (hne' : ∀ a b, a < b → b < l'.length → l'.getD a 0 ≠ l'.getD b 0) (hi : i < l.length) (hj : j < l'.length) (e : l.getD i 0 = l'.getD j 0) (h : Mx l l' (i + 1) (j + 1) k) : Mx l l' i j (k + 1) := by
  have p1 : ix l (l.getD i 0) = i := ix_get hne hi
  have p2 : ix l' (l.getD i 0) = j := by rw [e]; exact ix_get hne' hj
  refine ⟨fun s hs => ?_, ?_⟩
  · cases s with
    | nil => exact Nat.zero_le _
    | cons w r =>
      obtain ⟨h1, h2⟩ := Ch.cons_iff.mp hs
      have := h.1 r (h2.mono (by omega) (by omega))
      show r.length + 1 ≤ k + 1
      omega
  · obtain ⟨s, h1, h2⟩ := h.2
    refine ⟨l.getD i 0 :: s, Ch.cons_iff.mpr ⟨⟨⟨by rw [p1]; exact hi, by rw [p2]; exact hj⟩, by omega, by omega⟩, by rw [p1, p2]; exact h1⟩, by show s.length + 1 = k + 1; omega⟩
theorem Mx.other {k1 k2 : Nat} (e : l.getD i 0 ≠ l'.getD j 0) (h1 : Mx l l' (i + 1) j k1) (h2 : Mx l l' i (j + 1) k2) : Mx l l' i j (max k1 k2) := by
  refine ⟨fun s hs => ?_, ?_⟩
  · cases s with
    | nil => exact Nat.zero_le _
    | cons w r =>
      obtain ⟨a1, a2⟩ := Ch.cons_iff.mp hs
      by_cases c1 : i < ix l w
      · have := h1.1 (w :: r) (Ch.cons_iff.mpr ⟨⟨a1.1, by omega, a1.2.2⟩, a2⟩)
        omega
      · have hw : ix l w = i := by omega
        have hne : ix l' w ≠ j := fun h => e (by
          have q1 := ix_at a1.1.1
          have q2 := ix_at a1.1.2
          rw [hw] at q1
          rw [h] at q2
          rw [q1, q2])
        have := h2.1 (w :: r) (Ch.cons_iff.mpr ⟨⟨a1.1, a1.2.1, by omega⟩, a2⟩)
        omega
  · by_cases c : k1 ≤ k2
    · obtain ⟨s, b1, b2⟩ := h2.2
      exact ⟨s, b1.mono (Nat.le_refl _) (Nat.le_succ _), by omega⟩
    · obtain ⟨s, b1, b2⟩ := h1.2
      exact ⟨s, b1.mono (Nat.le_succ _) (Nat.le_refl _), by omega⟩
/-! rows compared from the first on -/
def lxLe : List Nat → List Nat → Prop
  | [], _ => True
  | _ :: _, [] => False
  | a :: x, b :: y => a < b ∨ a = b ∧ lxLe x y
theorem lxLe_anti : ∀ x y : List Nat, x.length = y.length → lxLe x y → lxLe y x → x = y
  | [], [], _, _, _ => rfl
  | [], b :: y, h, _, _ => by cases h
  | a :: x, [], h, _, _ => by cases h
  | a :: x, b :: y, h, h1, h2 => by
    unfold lxLe at h1 h2
    have hl : x.length = y.length := Nat.succ.inj h
    rcases h1 with h1 | ⟨h1, h3⟩
    · rcases h2 with h2 | ⟨h2, -⟩ <;> omega
    · rcases h2 with h2 | ⟨-, h4⟩
      · omega
      · rw [h1, lxLe_anti x y hl h3 h4]
def Bst (l l' : List Nat) (i j k : Nat) (G : List Nat) : Prop := Ch l l' i j G ∧ G.length = k ∧ ∀ s, Ch l l' i j s → s.length = k → lxLe G s
theorem Mx.tail {v : Nat} {r : List Nat} (hM : Mx l l' i j (k + 1)) (hs : Ch l l' i j (v :: r)) (hk : r.length = k) : Mx l l' (ix l v + 1) (ix l' v + 1) k := by
  obtain ⟨h1, h2⟩ := Ch.cons_iff.mp hs
  refine ⟨fun s hs => ?_, r, h2, hk⟩
  have := hM.1 (v :: s) (Ch.cons_iff.mpr ⟨h1, hs⟩)
  have h3 : s.length + 1 ≤ k + 1 := this
  omega
theorem Bst.step {G : List Nat} (hM : Mx l l' i j (k + 1)) (hw : mB l l' w ∧ i ≤ ix l w ∧ j ≤ ix l' w) (hmin : ∀ v, v < w → (mB l l' v ∧ i ≤ ix l v ∧ j ≤ ix l' v) → ¬ Mx l l' (ix l v + 1) (ix l' v + 1) k) (hG : Bst l l' (ix l w + 1) (ix l' w + 1) k G) : Bst l l' i j (k + 1) (w :: G) := by
  refine ⟨Ch.cons_iff.mpr ⟨hw, hG.1⟩, by show G.length + 1 = k + 1; rw [hG.2.1], fun s hs hlen => ?_⟩
  cases s with
  | nil => cases hlen
  | cons v r =>
    have hr : r.length = k := Nat.succ.inj hlen
    obtain ⟨h1, h2⟩ := Ch.cons_iff.mp hs
    have h3 := hM.tail hs hr
    unfold lxLe
    by_cases c1 : w < v
    · exact Or.inl c1
    · by_cases c2 : v < w
      · exact absurd h3 (hmin v c2 h1)
      · have e : w = v := by omega
        subst e
        exact Or.inr ⟨rfl, hG.2.2 r h2 hr⟩
/-- a word that begins as many -/
theorem Mx.word (h8 : ∀ a, a < l.length → l.getD a 0 < 8) (hM : Mx l l' i j (k + 1)) : ∃ v, v < 8 ∧ (mB l l' v ∧ i ≤ ix l v ∧ j ≤ ix l' v) ∧ Mx l l' (ix l v + 1) (ix l' v + 1) k := by
  obtain ⟨s, h1, h2⟩ := hM.2
  cases s with
  | nil => cases h2
  | cons v r =>
    have hr : r.length = k := Nat.succ.inj h2
    obtain ⟨h3, h4⟩ := Ch.cons_iff.mp h1
    refine ⟨v, ?_, h3, hM.tail h1 hr⟩
    have := ix_at h3.1.1
    rw [← this]; exact h8 _ h3.1.1
end CHN
section AL
variable {N x m c : Nat} {g g' : ZS} {A : ZA} {l l' : List Nat}
def TBc (g : ZS) (T : Nat) (l l' : List Nat) (i j : Nat) : Prop := ∃ k, zgi g (T + 4 + i) j = nI k ∧ Mx l l' i j k ∧ k + i ≤ l.length
theorem TBc.keep {S : Nat → Nat → Prop} {T i j : Nat} (h : TBc g T l l' i j) (hJ : zJ S g g') (hS : ¬ S (T + 4 + i) j) : TBc g' T l l' i j := by
  obtain ⟨k, h1, h2, h3⟩ := h
  exact ⟨k, by rw [hJ.gi hS]; exact h1, h2, h3⟩
theorem c_compare {T T' : Nat} (hN : 10000 ≤ N) (hT : TL (zh g) T) (hT' : TL (zh g) T') (h : TS g T l) (h' : TS g T' l') (hd : T' < T + 4 ∧ T' + 2 < T + 4 ∨ T + 13 ≤ T') (hne : ∀ a b, a < b → b < l.length → l.getD a 0 ≠ l.getD b 0) (hne' : ∀ a b, a < b → b < l'.length → l'.getD a 0 ≠ l'.getD b 0) : zW (f_X10_compare N T T' g) (fun g' => zJ (fun a _ => T + 4 ≤ a ∧ a < T + 13) g g' ∧ ∀ i j, i ≤ l.length → j ≤ l'.length → TBc g' T l l' i j) := by
  obtain ⟨t1, t2, t3, t4, t5, t6, t7, t8⟩ := hT.f
  obtain ⟨u1, u2, u3, u4, u5, u6, u7, u8⟩ := hT'.f
  obtain ⟨k1, k2, k3⟩ := h
  obtain ⟨q1, q2, q3⟩ := h'
  unfold f_X10_compare
  refine w_rdI t1 k1 ?_
  refine zW_for (fun t (s : Int32 × ZS) => (t ≤ l.length → s.1 = nI (l.length - t)) ∧ (t = l.length + 1 → s.1 = -nI 1) ∧ zJ (fun a _ => T + 4 ≤ a ∧ a < T + 13) g s.2 ∧ ∀ i j, i ≤ l.length → l.length + 1 ≤ i + t → j ≤ l'.length → TBc s.2 T l l' i j) (l.length + 1) (fun t s ht hs => ?_) (fun s hs => ?_) (by omega) (Nat.zero_le _) ⟨fun _ => by rw [Nat.sub_zero], fun h => by omega, zJ.rfl, fun i j h1 h2 => by omega⟩
  · obtain ⟨y, g1⟩ := s
    obtain ⟨a1, -, J1, a4⟩ := hs
    dsimp only at a1 J1 a4
    have a1 := a1 (by omega)
    obtain ⟨i, hi⟩ : ∃ i, i = l.length - t := ⟨_, rfl⟩
    rw [← hi] at a1
    subst a1
    show zW (f_X10_compare_5 N T T' (nI i) g1) _
    unfold f_X10_compare_5
    rw [if_neg (nI_pos (by omega))]
    refine w_rdI (by rw [J1.sh]; exact u1) (show zgi g1 T' 3 = nI l'.length by rw [J1.gi (by omega)]; exact q1) ?_
    refine zW_for (fun u (s : Int32 × ZS) => (u ≤ l'.length → s.1 = nI (l'.length - u)) ∧ (u = l'.length + 1 → s.1 = -nI 1) ∧ zJ (fun a _ => T + 4 ≤ a ∧ a < T + 13) g s.2 ∧ (∀ i' j, i' ≤ l.length → i < i' → j ≤ l'.length → TBc s.2 T l l' i' j) ∧ ∀ j, j ≤ l'.length → l'.length + 1 ≤ j + u → TBc s.2 T l l' i j) (l'.length + 1) (fun u s hu hs => ?_) (fun s hs => ?_) (by omega) (Nat.zero_le _) ⟨fun _ => by rw [Nat.sub_zero], fun h => by omega, J1, fun i' j h1 h2 h3 => a4 i' j h1 (by omega) h3, fun j h1 h2 => by omega⟩
    · obtain ⟨z, g2⟩ := s
      obtain ⟨b1, -, J2, b4, b5⟩ := hs
      dsimp only at b1 J2 b4 b5
      have b1 := b1 (by omega)
      obtain ⟨j, hj⟩ : ∃ j, j = l'.length - u := ⟨_, rfl⟩
      rw [← hj] at b1
      subst b1
      have s0 : zsh g2 T = some (10, 0) := by rw [J2.sh]; exact t1
      have s0' : zsh g2 T' = some (10, 0) := by rw [J2.sh]; exact u1
      have e3 : zgi g2 T 3 = nI l.length := by rw [J2.gi (by omega)]; exact k1
      have e3' : zgi g2 T' 3 = nI l'.length := by rw [J2.gi (by omega)]; exact q1
      have r2 : zgr g2 T 2 = some (T + 3) := by rw [J2.gr]; exact t7
      have s3 : zsh g2 (T + 3) = some (27, 9) := by rw [J2.sh]; exact t4
      have rr : ∀ a, a < 9 → zaald 27 g2 (T + 3) (nI a) = some (T + 4 + a) := fun a ha => by rw [a27_9 s3 ha, J2.gr]; exact (t8 a ha).1
      have ss : ∀ a, a < 9 → zsh g2 (T + 4 + a) = some (20, 9) := fun a ha => by rw [J2.sh]; exact (t8 a ha).2
      -- after a number is put
      have fin : ∀ (v : Nat), Mx l l' i j v → v + i ≤ l.length → zW (f_X10_compare_117 N T T' (nI i) (nI j) (zsetI g2 (T + 4 + i) j (nI v))) (zI (fun (s : Int32 × ZS) => (u + 1 ≤ l'.length → s.1 = nI (l'.length - (u + 1))) ∧ (u + 1 = l'.length + 1 → s.1 = -nI 1) ∧ zJ (fun a _ => T + 4 ≤ a ∧ a < T + 13) g s.2 ∧ (∀ i' j, i' ≤ l.length → i < i' → j ≤ l'.length → TBc s.2 T l l' i' j) ∧ ∀ j, j ≤ l'.length → l'.length + 1 ≤ j + (u + 1) → TBc s.2 T l l' i j) (zI (fun (s : Int32 × ZS) => (t + 1 ≤ l.length → s.1 = nI (l.length - (t + 1))) ∧ (t + 1 = l.length + 1 → s.1 = -nI 1) ∧ zJ (fun a _ => T + 4 ≤ a ∧ a < T + 13) g s.2 ∧ ∀ i j, i ≤ l.length → l.length + 1 ≤ i + (t + 1) → j ≤ l'.length → TBc s.2 T l l' i j) (fun g' => zJ (fun a _ => T + 4 ≤ a ∧ a < T + 13) g g' ∧ ∀ i j, i ≤ l.length → j ≤ l'.length → TBc g' T l l' i j))) := by
        intro v hv hvi
        unfold f_X10_compare_117
        rw [zW_some, zI_inl]
        have J3 : zJ (fun a q => a = T + 4 + i ∧ q = j) g2 (zsetI g2 (T + 4 + i) j (nI v)) := zJ.setI ⟨rfl, rfl⟩
        refine ⟨fun h => ?_, fun h => ?_, J2.trans (J3.mono (fun a j z => by omega)), fun i' j' h1 h2 h3 => (b4 i' j' h1 h2 h3).keep J3 (by omega), fun j' h1 h2 => ?_⟩
        · dsimp only; rw [nI_dec (by omega)]; congr 1; omega
        · dsimp only; rw [show j = 0 by omega]; exact ng_dec0
        · by_cases e : j' = j
          · subst e
            exact ⟨v, by show zgi (zsetI g2 (T + 4 + i) j' (nI v)) (T + 4 + i) j' = _; rw [gi_sI, if_pos ⟨rfl, rfl⟩], hv, hvi⟩
          · exact (b5 j' h1 (by omega)).keep J3 (by omega)
      show zW (f_X10_compare_14 N T T' (nI i) (nI j) g2) _
      unfold f_X10_compare_14 f_X10_compare_34
      rw [if_neg (nI_pos (by omega))]
      refine w_rdI s0 e3 ?_
      by_cases c1 : i = l.length
      · rw [if_pos (by rw [c1])]
        refine w_rdR s0 r2 ?_
        rw [rr i (by omega), Option.bind_some, c_0, w20_9 (ss i (by omega)) (by omega), Option.bind_some]
        exact fin 0 (Mx.stop (by omega)) (by omega)
      · rw [if_neg (fun h => c1 ((nI_eq (by omega) (by omega)).mp h))]
        refine w_rdI s0' e3' ?_
        by_cases c2 : j = l'.length
        · rw [if_pos (by rw [c2])]
          refine w_rdR s0 r2 ?_
          rw [rr i (by omega), Option.bind_some, c_0, w20_9 (ss i (by omega)) (by omega), Option.bind_some]
          exact fin 0 (Mx.stop (by omega)) (by omega)
        · rw [if_neg (fun h => c2 ((nI_eq (by omega) (by omega)).mp h))]
          have d1 := k3 i (by omega)
          have d2 := q3 j (by omega)
          refine w_rdR s0 (show zgr g2 T 0 = some (T + 1) by rw [J2.gr]; exact t5) ?_
          rw [a20_8 (by rw [J2.sh]; exact t2) (by omega), J2.gi (by omega), d1.1, Option.bind_some]
          refine w_rdR s0' (show zgr g2 T' 0 = some (T' + 1) by rw [J2.gr]; exact u5) ?_
          rw [a20_8 (by rw [J2.sh]; exact u2) (by omega), J2.gi (by omega), d2.1, Option.bind_some]
          by_cases c3 : l.getD i 0 = l'.getD j 0
          · rw [if_pos (by rw [c3])]
            obtain ⟨v, v1, v2, v3⟩ := b4 (i + 1) (j + 1) (by omega) (by omega) (by omega)
            refine w_rdR s0 r2 ?_
            rw [rr i (by omega), Option.bind_some]
            refine w_rdR s0 r2 ?_
            rw [c_1, nI_add, nI_add, rr (i + 1) (by omega), Option.bind_some, a20_9 (ss (i + 1) (by omega)) (by omega), v1, Option.bind_some, nI_add, w20_9 (ss i (by omega)) (by omega), Option.bind_some, Nat.add_comm 1 v]
            exact fin (v + 1) (Mx.same hne hne' (by omega) (by omega) c3 v2) (by omega)
          · rw [if_neg (fun h => c3 ((nI_eq (by omega) (by omega)).mp h))]
            obtain ⟨v, v1, v2, v3⟩ := b4 (i + 1) j (by omega) (by omega) (by omega)
            obtain ⟨w, w1, w2, w3⟩ := b5 (j + 1) (by omega) (by omega)
            refine w_rdR s0 r2 ?_
            rw [rr i (by omega), Option.bind_some]
            refine w_rdR s0 r2 ?_
            rw [c_1, nI_add, nI_add, rr (i + 1) (by omega), Option.bind_some, a20_9 (ss (i + 1) (by omega)) (by omega), v1, Option.bind_some]
            refine w_rdR s0 r2 ?_
            rw [rr i (by omega), Option.bind_some, a20_9 (ss i (by omega)) (by omega), w1, Option.bind_some, mx, Option.bind_some]
            have hmax : (if nI v < nI w then nI w else nI v) = nI (max v w) := by
              by_cases e : v < w
              · rw [if_pos (nI_lt e (by omega)), Nat.max_eq_right (by omega)]
              · rw [if_neg (nI_nlt (by omega) (by omega)), Nat.max_eq_left (by omega)]
            rw [hmax, w20_9 (ss i (by omega)) (by omega), Option.bind_some]
            exact fin (max v w) (Mx.other c3 v2 w2) (by omega)
    · obtain ⟨z, g2⟩ := s
      obtain ⟨-, b2, J2, b4, b5⟩ := hs
      dsimp only at b2 J2 b4 b5
      have b2 := b2 rfl
      subst b2
      show zW (f_X10_compare_14 N T T' (nI i) (-nI 1) g2) _
      unfold f_X10_compare_14
      rw [if_pos (show -nI 1 < 0 by decide), Option.map_some, zW_some, zI_inr, zI_inl]
      refine ⟨fun h => ?_, fun h => ?_, J2, fun i' j' h1 h2 h3 => ?_⟩
      · dsimp only; rw [nI_dec (by omega)]; congr 1; omega
      · dsimp only; rw [show i = 0 by omega]; exact ng_dec0
      · by_cases e : i' = i
        · subst e; exact b5 j' h3 (by omega)
        · exact b4 i' j' h1 (by omega) h3
  · obtain ⟨y, g1⟩ := s
    obtain ⟨-, a2, J1, a4⟩ := hs
    dsimp only at a2 J1 a4
    have a2 := a2 rfl
    subst a2
    show zW (f_X10_compare_5 N T T' (-nI 1) g1) _
    unfold f_X10_compare_5
    rw [if_pos (show -nI 1 < 0 by decide), Option.map_some, zW_some, zI_inr]
    exact ⟨J1, fun i j h1 h2 => a4 i j h1 (by omega) h2⟩
end AL
