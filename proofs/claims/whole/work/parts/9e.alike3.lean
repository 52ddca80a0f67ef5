/-! ===== alike: the reference's sets ===== -/
def ln (l : List Nat) (s : Nat) : Nat → List Nat
  | 0 => []
  | k + 1 => if s / 2 ^ k % 2 = 1 then ln l s k ++ [l.getD k 0] else ln l s k
section LN
variable {l l' s t : List Nat} {i j k : Nat}
theorem ln_y {z k : Nat} (h : z / 2 ^ k % 2 = 1) : ln l z (k + 1) = ln l z k ++ [l.getD k 0] := if_pos h
theorem ln_n {z k : Nat} (h : ¬ z / 2 ^ k % 2 = 1) : ln l z (k + 1) = ln l z k := if_neg h
theorem ln_len {z : Nat} : ∀ k, (ln l z k).length ≤ k
  | 0 => Nat.le_refl _
  | k + 1 => by
    have := ln_len (z := z) k
    by_cases e : z / 2 ^ k % 2 = 1
    · rw [ln_y e, List.length_append, List.length_singleton]; omega
    · rw [ln_n e]; omega
theorem ln_mem {z : Nat} (hne : ∀ a b, a < b → b < l.length → l.getD a 0 ≠ l.getD b 0) : ∀ k, k ≤ l.length → ∀ w, w ∈ ln l z k → ix l w < k
  | 0, _, w, h => absurd h List.not_mem_nil
  | k + 1, hk, w, h => by
    by_cases e : z / 2 ^ k % 2 = 1
    · rw [ln_y e, List.mem_append, List.mem_singleton] at h
      rcases h with h | h
      · have := ln_mem hne k (by omega) w h; omega
      · rw [h, ix_get hne (by omega)]; omega
    · rw [ln_n e] at h
      have := ln_mem hne k (by omega) w h; omega
theorem ln_cong {z z' : Nat} : ∀ k, (∀ i, i < k → ((z / 2 ^ i % 2 = 1) ↔ (z' / 2 ^ i % 2 = 1))) → ln l z k = ln l z' k
  | 0, _ => rfl
  | k + 1, h => by
    have ih := ln_cong k (fun i hi => h i (by omega))
    by_cases e : z / 2 ^ k % 2 = 1
    · rw [ln_y e, ln_y ((h k (by omega)).mp e), ih]
    · rw [ln_n e, ln_n (fun e' => e ((h k (by omega)).mpr e')), ih]
theorem ln_pre {z k : Nat} : ∀ d, ∃ t, ln l z (k + d) = ln l z k ++ t
  | 0 => ⟨[], by rw [List.append_nil]; rfl⟩
  | d + 1 => by
    obtain ⟨t, ht⟩ := ln_pre (z := z) (k := k) d
    by_cases e : z / 2 ^ (k + d) % 2 = 1
    · exact ⟨t ++ [l.getD (k + d) 0], by rw [← Nat.add_assoc, ln_y e, ht, List.append_assoc]⟩
    · exact ⟨t, by rw [← Nat.add_assoc, ln_n e]; exact ht⟩
theorem Ch.pre (h : Ch l l' i j (s ++ t)) : Ch l l' i j s := ⟨fun w hw => h.1 w (List.mem_append.mpr (Or.inl hw)), (List.pairwise_append.mp h.2).1⟩
theorem Ch.snoc_iff {w : Nat} : Ch l l' i j (s ++ [w]) ↔ Ch l l' i j s ∧ (mB l l' w ∧ i ≤ ix l w ∧ j ≤ ix l' w) ∧ ∀ v, v ∈ s → Rr l l' v w := by
  unfold Ch
  rw [List.pairwise_append]
  constructor
  · rintro ⟨h1, h2, -, h4⟩
    exact ⟨⟨fun v hv => h1 v (List.mem_append.mpr (Or.inl hv)), h2⟩, h1 w (List.mem_append.mpr (Or.inr List.mem_cons_self)), fun v hv => h4 v hv w List.mem_cons_self⟩
  · rintro ⟨⟨h1, h2⟩, h3, h4⟩
    refine ⟨fun v hv => ?_, h2, List.pairwise_singleton _ _, fun v hv u hu => ?_⟩
    · rcases List.mem_append.mp hv with hv | hv
      · exact h1 v hv
      · rw [List.mem_singleton.mp hv]; exact h3
    · rw [List.mem_singleton.mp hu]; exact h4 v hv
/-- every row in the order of l is chosen by a set -/
theorem ln_ex (hne : ∀ a b, a < b → b < l.length → l.getD a 0 ≠ l.getD b 0) : ∀ k, k ≤ l.length → ∀ s : List Nat, (∀ w, w ∈ s → ix l w < k) → s.Pairwise (fun v w => ix l v < ix l w) → ∃ z, z < 2 ^ k ∧ ln l z k = s
  | 0, _, s, h, _ => ⟨0, by show 0 < 2 ^ 0; omega, by
      cases s with
      | nil => rfl
      | cons w r => exact absurd (h w List.mem_cons_self) (Nat.not_lt_zero _)⟩
  | k + 1, hk, s, h, hp => by
    have hz : ∀ z, z < 2 ^ k → ¬ z / 2 ^ k % 2 = 1 := fun z hz e => by rw [Nat.div_eq_of_lt hz] at e; omega
    have hpow : 2 ^ k ≤ 2 ^ (k + 1) := p2_le (Nat.le_succ k)
    rcases split_last s with e | ⟨r, w, e⟩
    · subst e
      obtain ⟨z, z1, z2⟩ := ln_ex hne k (by omega) [] (fun w hw => absurd hw List.not_mem_nil) List.Pairwise.nil
      exact ⟨z, by omega, by rw [ln_n (hz z z1)]; exact z2⟩
    · subst e
      obtain ⟨p1, -, p3⟩ := List.pairwise_append.mp hp
      have hwk := h w (List.mem_append.mpr (Or.inr List.mem_cons_self))
      have hr : ∀ v, v ∈ r → ix l v < ix l w := fun v hv => p3 v hv w List.mem_cons_self
      by_cases e : ix l w = k
      · obtain ⟨z, z1, z2⟩ := ln_ex hne k (by omega) r (fun v hv => by have := hr v hv; omega) p1
        have hw : l.getD k 0 = w := by rw [← e]; exact ix_at (by omega)
        refine ⟨z ||| 2 ^ k, Nat.or_lt_two_pow (by omega) (Nat.pow_lt_pow_right (by omega) (by omega)), ?_⟩
        rw [ln_y (or_bit.mpr (Or.inr rfl)), hw, ← z2]
        congr 1
        exact ln_cong k (fun i hi => by rw [or_bit]; exact ⟨fun h => h.elim id (fun h => by omega), Or.inl⟩)
      · obtain ⟨z, z1, z2⟩ := ln_ex hne k (by omega) (r ++ [w]) (fun v hv => by
          rcases List.mem_append.mp hv with hv | hv
          · have := hr v hv; omega
          · rw [List.mem_singleton.mp hv]; omega) hp
        exact ⟨z, by omega, by rw [ln_n (hz z z1)]; exact z2⟩
theorem lxLe_trans : ∀ a b d : List Nat, lxLe a b → lxLe b d → lxLe a d
  | [], _, _, _, _ => trivial
  | _ :: _, [], _, h, _ => absurd h id
  | _ :: _, _ :: _, [], _, h => absurd h id
  | a :: x, b :: y, d :: z, h1, h2 => by
    unfold lxLe at h1 h2 ⊢
    rcases h1 with h1 | ⟨h1, h3⟩
    · rcases h2 with h2 | ⟨h2, -⟩
      · exact Or.inl (by omega)
      · exact Or.inl (by omega)
    · rcases h2 with h2 | ⟨h2, h4⟩
      · exact Or.inl (by omega)
      · exact Or.inr ⟨by omega, lxLe_trans x y z h3 h4⟩
theorem lxLe_first : ∀ (a b : List Nat) (d : Nat), a.length = b.length → (∀ j, j < d → a.getD j 0 = b.getD j 0) → (a.length ≤ d ∨ a.getD d 0 < b.getD d 0) → lxLe a b
  | [], _, _, _, _, _ => trivial
  | _ :: _, [], _, h, _, _ => by cases h
  | a :: x, b :: y, 0, h, _, h2 => by
    unfold lxLe
    rcases h2 with h2 | h2
    · exact absurd h2 (Nat.not_succ_le_zero _)
    · exact Or.inl h2
  | a :: x, b :: y, d + 1, h, h1, h2 => by
    unfold lxLe
    refine Or.inr ⟨h1 0 (Nat.succ_pos d), lxLe_first x y d (Nat.succ.inj h) (fun j hj => h1 (j + 1) (Nat.succ_lt_succ hj)) ?_⟩
    rcases h2 with h2 | h2
    · exact Or.inl (Nat.le_of_succ_le_succ h2)
    · exact Or.inr h2
/-- the best so far, of the sets below z -/
def OI (l l' : List Nat) (n z : Nat) (b : List Nat) : Prop := Ch l l' 0 0 b ∧ b.length ≤ n ∧ ∀ z', 1 ≤ z' → z' < z → Ch l l' 0 0 (ln l z' n) → (ln l z' n).length < b.length ∨ (ln l z' n).length = b.length ∧ lxLe b (ln l z' n)
theorem OI.same {n z : Nat} {b : List Nat} (h : OI l l' n z b) (hn : Ch l l' 0 0 (ln l z n) → (ln l z n).length < b.length ∨ (ln l z n).length = b.length ∧ lxLe b (ln l z n)) : OI l l' n (z + 1) b := ⟨h.1, h.2.1, fun z' h1 h2 h3 => by
  by_cases e : z' = z
  · subst e; exact hn h3
  · exact h.2.2 z' h1 (by omega) h3⟩
theorem lxLe_rfl : ∀ a : List Nat, lxLe a a
  | [] => trivial
  | _ :: x => Or.inr ⟨rfl, lxLe_rfl x⟩
theorem OI.take {n z : Nat} {b : List Nat} (h : OI l l' n z b) (hv : Ch l l' 0 0 (ln l z n)) (hb : b.length < (ln l z n).length ∨ b.length = (ln l z n).length ∧ lxLe (ln l z n) b) : OI l l' n (z + 1) (ln l z n) := ⟨hv, ln_len n, fun z' h1 h2 h3 => by
  by_cases e : z' = z
  · subst e; exact Or.inr ⟨rfl, lxLe_rfl _⟩
  · have := h.2.2 z' h1 (by omega) h3
    rcases hb with hb | ⟨hb, hb2⟩
    · exact Or.inl (by omega)
    · rcases this with this | ⟨this, h4⟩
      · exact Or.inl (by omega)
      · exact Or.inr ⟨by omega, lxLe_trans _ _ _ hb2 h4⟩⟩
/-- the best of all sets is the class's row -/
theorem OI.best {b G : List Nat} {k : Nat} (hne : ∀ a b, a < b → b < l.length → l.getD a 0 ≠ l.getD b 0) (h : OI l l' l.length (2 ^ l.length) b) (hM : Mx l l' 0 0 k) (hG : Bst l l' 0 0 k G) : b = G := by
  have h1 := hM.1 b h.1
  obtain ⟨g1, g2, g3⟩ := hG
  by_cases e : k = 0
  · have hb : b.length = 0 := by omega
    have hg : G.length = 0 := by omega
    rw [List.length_eq_zero_iff.mp hb, List.length_eq_zero_iff.mp hg]
  · obtain ⟨z, z1, z2⟩ := ln_ex hne l.length (Nat.le_refl _) G (fun w hw => (g1.1 w hw).1.1) (g1.2.imp (fun hr => hr.1))
    have hz : 1 ≤ z := by
      rcases Nat.eq_zero_or_pos z with h0 | h0
      · subst h0
        have : ∀ k, ln l 0 k = [] := fun k => by
          induction k with
          | zero => rfl
          | succ k ih => rw [ln_n (by rw [Nat.zero_div]; decide), ih]
        rw [this] at z2
        rw [← z2] at g2
        exact absurd g2.symm e
      · exact h0
    have := h.2.2 z hz z1 (by rw [z2]; exact g1)
    rw [z2] at this
    rcases this with this | ⟨this, h4⟩
    · omega
    · exact lxLe_anti b G this.symm h4 (g3 b h.1 (by omega))
end LN
section AR
variable {N m c : Nat} {g g' : ZS} {A : ZA}
theorem e_isLess {v b : List Nat} (hN : 10000 ≤ N) (hR : LR m (zh g)) (h8 : v.length ≤ 8) (hvb : v.length = b.length) (h1 : ∀ j, j < v.length → zgi g (m + 21) j = nI (v.getD j 0)) (h2 : ∀ j, j < b.length → zgi g (m + 22) j = nI (b.getD j 0)) (hv : ∀ j, j < v.length → v.getD j 0 < 8) (hb : ∀ j, j < b.length → b.getD j 0 < 8) : ∃ r, f_X12_isLess N m (nI v.length) g = some r ∧ (r = 0 → lxLe b v) ∧ (¬ r = 0 → lxLe v b) := by
  obtain ⟨z1, z2, z3, z4⟩ := zleast_spec (fun i => decide (v.getD i 0 ≠ b.getD i 0)) v.length 0
  have hloop := loopL (body := fun s => f_X12_isLess_2 N m (nI v.length) s g) (fun i => decide (v.getD i 0 ≠ b.getD i 0)) (fun i => if b.getD i 0 ≤ v.getD i 0 then (0 : Int32) else 1) (0 : Int32) v.length (fun i hi => ?_) ?_ (N := N) (by omega)
  · refine ⟨_, hloop, ?_, ?_⟩
    · intro h
      refine lxLe_first b v (zleast (fun i => decide (v.getD i 0 ≠ b.getD i 0)) v.length 0) hvb.symm (fun j hj => (Decidable.not_not.mp (of_decide_eq_false (z3 j (Nat.zero_le _) hj))).symm) ?_
      by_cases e : zleast (fun i => decide (v.getD i 0 ≠ b.getD i 0)) v.length 0 < v.length
      · rw [if_pos e] at h
        have hne := of_decide_eq_true (z4 (by omega))
        by_cases e2 : b.getD (zleast (fun i => decide (v.getD i 0 ≠ b.getD i 0)) v.length 0) 0 ≤ v.getD (zleast (fun i => decide (v.getD i 0 ≠ b.getD i 0)) v.length 0) 0
        · exact Or.inr (by omega)
        · rw [if_neg e2] at h; exact absurd h (by decide)
      · exact Or.inl (by omega)
    · intro h
      by_cases e : zleast (fun i => decide (v.getD i 0 ≠ b.getD i 0)) v.length 0 < v.length
      · rw [if_pos e] at h
        refine lxLe_first v b (zleast (fun i => decide (v.getD i 0 ≠ b.getD i 0)) v.length 0) hvb (fun j hj => Decidable.not_not.mp (of_decide_eq_false (z3 j (Nat.zero_le _) hj))) (Or.inr ?_)
        by_cases e2 : b.getD (zleast (fun i => decide (v.getD i 0 ≠ b.getD i 0)) v.length 0) 0 ≤ v.getD (zleast (fun i => decide (v.getD i 0 ≠ b.getD i 0)) v.length 0) 0
        · rw [if_pos e2] at h; exact absurd rfl h
        · omega
      · rw [if_neg e] at h; exact absurd rfl h
  · have e1 := h1 i hi
    have e2 := h2 i (by omega)
    have b1 := hv i hi
    have b2 := hb i (by omega)
    show f_X12_isLess_2 N m (nI v.length) (nI i) g = _
    unfold f_X12_isLess_2 f_X12_isLess_42
    rw [if_neg (nI_ge hi (by omega)), p_rdR hR.s0, hR.r32, Option.bind_some, a20_8 hR.s21 (by omega), e1, Option.bind_some, p_rdR hR.s0, hR.r33, Option.bind_some, a20_8 hR.s22 (by omega), e2, Option.bind_some]
    by_cases e : v.getD i 0 = b.getD i 0
    · rw [if_pos (by rw [e]), decide_eq_false (fun h => h e), if_neg Bool.false_ne_true, c_1, nI_add]
    · rw [if_neg (fun h => e ((nI_eq (by omega) (by omega)).mp h)), decide_eq_true e, if_pos rfl, Option.bind_some, a20_8 hR.s21 (by omega), e1, Option.bind_some, Option.bind_some, a20_8 hR.s22 (by omega), e2, Option.bind_some]
      by_cases e3 : b.getD i 0 ≤ v.getD i 0
      · rw [if_pos (nI_le e3 (by omega)), if_pos e3]; rfl
      · rw [if_neg (nI_ge (by omega) (by omega)), if_neg e3]; rfl
  · show f_X12_isLess_2 N m (nI v.length) (nI v.length) g = _
    unfold f_X12_isLess_2
    rw [if_pos (nI_le (Nat.le_refl _) (by omega))]; rfl
end AR
