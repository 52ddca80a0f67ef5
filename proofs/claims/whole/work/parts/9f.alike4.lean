/-! ===== alike: the call ===== -/
section AZ
variable {N x m c : Nat} {g g' : ZS} {A : ZA} {l l' : List Nat}
/-- where the last word of a row stands in the other one -/
def lsI (l' : List Nat) (s : List Nat) (y : Int32) : Prop := s = [] ∧ y = -nI 1 ∨ ∃ r w, s = r ++ [w] ∧ y = nI (ix l' w)
abbrev S21 (m : Nat) : Nat → Nat → Prop := fun a _ => a = m + 21 ∨ a = m + 22
theorem getD_app' {a b : List Nat} {j : Nat} : (a ++ b).getD j 0 = if j < a.length then a.getD j 0 else b.getD (j - a.length) 0 := by
  rw [List.getD_eq_getElem?_getD, List.getD_eq_getElem?_getD, List.getD_eq_getElem?_getD]
  by_cases h : j < a.length
  · rw [if_pos h, List.getElem?_append_left h]
  · rw [if_neg h, List.getElem?_append_right (by omega)]
theorem ln_lt8 {z : Nat} (h8 : ∀ a, a < l.length → l.getD a 0 < 8) : ∀ k, k ≤ l.length → ∀ j, j < (ln l z k).length → (ln l z k).getD j 0 < 8
  | 0, _, j, h => absurd h (Nat.not_lt_zero j)
  | k + 1, hk, j, h => by
    by_cases e : z / 2 ^ k % 2 = 1
    · rw [ln_y e] at h ⊢
      rw [List.length_append, List.length_singleton] at h
      rw [getD_app']
      by_cases e2 : j < (ln l z k).length
      · rw [if_pos e2]; exact ln_lt8 h8 k (by omega) j e2
      · rw [if_neg e2, show j - (ln l z k).length = 0 by omega]
        exact h8 k (by omega)
    · rw [ln_n e] at h ⊢
      exact ln_lt8 h8 k (by omega) j h
theorem Ch.lt8 {i j : Nat} {s : List Nat} (h8 : ∀ a, a < l.length → l.getD a 0 < 8) (h : Ch l l' i j s) : ∀ t, t < s.length → s.getD t 0 < 8 := fun t ht => by
  have h1 := (h.1 _ (getD_mem ht)).1.1
  rw [← ix_at h1]; exact h8 _ h1
/-- one set is tried -/
theorem r_set {z : Nat} {b : List Nat} {Z : Int32 × ZS → Prop} (hN : 10000 ≤ N) (hR : RJ m g A) (hA : AI A c) (hl8 : l.length ≤ 8) (hl8' : l'.length ≤ 8) (h8 : ∀ a, a < l.length → l.getD a 0 < 8) (h8' : ∀ a, a < l'.length → l'.getD a 0 < 8) (hne : ∀ a b, a < b → b < l.length → l.getD a 0 ≠ l.getD b 0) (T : ∀ j, j < l.length → zgi g (m + 12) j = nI (l.getD j 0)) (T' : ∀ j, j < l'.length → zgi g (m + 13) j = nI (l'.getD j 0)) (hz : z < 2 ^ l.length) (hO : OI l l' l.length z b) (hb : ∀ j, j < b.length → zgi g (m + 22) j = nI (b.getD j 0)) : zW (zloop (fun s => f_X12_alike_71 N m (nI l.length) (nI l'.length) (nI b.length) (nI z) s.1 s.2.1 s.2.2.1 s.2.2.2.1 s.2.2.2.2) N ((0 : Int32), (-1 : Int32), (1 : Int32), (0 : Int32), g)) (zI (fun st : Int32 × Int32 × ZS => st.2.1 = nI (z + 1) ∧ zJ (S21 m) g st.2.2 ∧ ∃ b', OI l l' l.length (z + 1) b' ∧ st.1 = nI b'.length ∧ ∀ j, j < b'.length → zgi st.2.2 (m + 22) j = nI (b'.getD j 0)) Z) := by
  have hz256 : z < 256 := Nat.lt_of_lt_of_le hz (Nat.pow_le_pow_right (n := 2) (by omega) hl8)
  have hb8 := hO.2.1
  have hblt := hO.1.lt8 h8
  -- what comes behind: not taken
  have keep : ∀ g2, zJ (S21 m) g g2 → (∀ j, j < b.length → zgi g2 (m + 22) j = nI (b.getD j 0)) → OI l l' l.length (z + 1) b → zW (f_X12_alike_219 N m (nI l.length) (nI l'.length) (nI b.length) (nI z) g2) (zI (fun st : Int32 × Int32 × ZS => st.2.1 = nI (z + 1) ∧ zJ (S21 m) g st.2.2 ∧ ∃ b', OI l l' l.length (z + 1) b' ∧ st.1 = nI b'.length ∧ ∀ j, j < b'.length → zgi st.2.2 (m + 22) j = nI (b'.getD j 0)) Z) := by
    intro g2 J2 h2 hO2
    unfold f_X12_alike_219
    rw [zW_some, zI_inl, c_1, nI_add]
    exact ⟨rfl, J2, b, hO2, rfl, h2⟩
  -- taken
  have take : ∀ g2, zJ (fun a _ => a = m + 21) g g2 → (∀ j, j < (ln l z l.length).length → zgi g2 (m + 21) j = nI ((ln l z l.length).getD j 0)) → OI l l' l.length (z + 1) (ln l z l.length) → zW (f_X12_alike_185 N m (nI l.length) (nI l'.length) (nI z) (nI (ln l z l.length).length) g2) (zI (fun st : Int32 × Int32 × ZS => st.2.1 = nI (z + 1) ∧ zJ (S21 m) g st.2.2 ∧ ∃ b', OI l l' l.length (z + 1) b' ∧ st.1 = nI b'.length ∧ ∀ j, j < b'.length → zgi st.2.2 (m + 22) j = nI (b'.getD j 0)) Z) := by
    intro g2 J2 h2 hO2
    have hlv := ln_len (l := l) (z := z) l.length
    have R2 := hR.1.J J2
    unfold f_X12_alike_185
    generalize ln l z l.length = v at h2 hO2 hlv
    refine zW_forI (fun i g' => zJ (fun a _ => a = m + 22) g2 g' ∧ ∀ j, j < i → zgi g' (m + 22) j = nI (v.getD j 0)) v.length (fun i g3 hi hI => ?_) (fun g3 hI => ?_) (by omega) (Nat.zero_le _) ⟨zJ.rfl, fun j hj => absurd hj (Nat.not_lt_zero j)⟩
    · obtain ⟨J3, e3⟩ := hI
      have R3 := R2.J J3
      show zW (f_X12_alike_192 N m (nI l.length) (nI l'.length) (nI v.length) (nI z) (nI v.length) (nI i) g3) _
      unfold f_X12_alike_192
      rw [if_neg (nI_ge hi (by omega))]
      refine w_rdR R3.s0 R3.r33 (w_rdR R3.s0 R3.r32 ?_)
      rw [a20_8 R3.s21 (by omega), J3.gi (by omega), h2 i hi, Option.bind_some, w20_8 R3.s22 (by omega), Option.bind_some, zW_some, zI_inl, c_1, nI_add]
      refine ⟨rfl, J3.setI' rfl, fun j hj => ?_⟩
      rw [gi_sI]
      by_cases e : j = i
      · subst e; rw [if_pos ⟨rfl, rfl⟩]
      · rw [if_neg (by omega)]; exact e3 j (by omega)
    · obtain ⟨J3, e3⟩ := hI
      show zW (f_X12_alike_192 N m (nI l.length) (nI l'.length) (nI v.length) (nI z) (nI v.length) (nI v.length) g3) _
      unfold f_X12_alike_192 f_X12_alike_219
      rw [if_pos (nI_le (Nat.le_refl _) (by omega)), Option.map_some, zW_some, zI_inr, zI_inl, c_1, nI_add]
      exact ⟨rfl, (J2.mono (fun a j z => Or.inl z)).trans (J3.mono (fun a j z => Or.inr z)), v, hO2, rfl, e3⟩
  refine zW_while (fun κ (s : Int32 × Int32 × Int32 × Int32 × ZS) => (∃ k, k ≤ l.length ∧ κ = l.length - k + 1 ∧ s.1 = nI (ln l z k).length ∧ lsI l' (ln l z k) s.2.1 ∧ s.2.2.1 = nI 1 ∧ s.2.2.2.1 = nI k ∧ Ch l l' 0 0 (ln l z k) ∧ zJ (fun a _ => a = m + 21) g s.2.2.2.2 ∧ ∀ j, j < (ln l z k).length → zgi s.2.2.2.2 (m + 21) j = nI ((ln l z k).getD j 0)) ∨ (κ = 0 ∧ s.2.2.1 = nI 0 ∧ ¬ Ch l l' 0 0 (ln l z l.length) ∧ zJ (fun a _ => a = m + 21) g s.2.2.2.2)) (fun κ s hs => ?_) (l.length + 1) N _ (by omega) (Or.inl ⟨0, Nat.zero_le _, by omega, rfl, Or.inl ⟨rfl, rfl⟩, rfl, rfl, Ch.nil, zJ.rfl, fun j hj => absurd hj (Nat.not_lt_zero j)⟩)
  obtain ⟨y1, y2, y3, y4, g2⟩ := s
  rcases hs with ⟨k, hk, hκ, h1, h2, h3, h4, h5, J2, h6⟩ | ⟨hκ, h3, h5, J2⟩
  · dsimp only at h1 h2 h3 h4 J2 h6
    subst h1 h3 h4
    have R2 : RJ m g2 A := hR.keep hA (J2.toM (m := m)) (fun a j z => by omega)
    have hlk := ln_len (l := l) (z := z) k
    show zW (f_X12_alike_71 N m (nI l.length) (nI l'.length) (nI b.length) (nI z) (nI (ln l z k).length) y2 (nI 1) (nI k) g2) _
    unfold f_X12_alike_71
    by_cases ek : k = l.length
    · rw [if_pos (nI_le (by omega) (by omega)), zW_map]
      subst ek
      have hbk : ∀ j, j < b.length → zgi g2 (m + 22) j = nI (b.getD j 0) := fun j hj => by rw [J2.gi (by omega)]; exact hb j hj
      have J2' : zJ (S21 m) g g2 := J2.mono (fun a j z => Or.inl z)
      unfold f_X12_alike_154
      rw [if_neg (show ¬ nI 1 = 0 by decide)]
      have hlt := ln_lt8 (z := z) h8 l.length (Nat.le_refl _)
      by_cases c1 : (ln l z l.length).length < b.length
      · rw [if_pos (nI_lt c1 (by omega))]
        exact keep g2 J2' hbk (hO.same (fun _ => Or.inl c1))
      · rw [if_neg (nI_nlt (by omega) (by omega))]
        by_cases c2 : (ln l z l.length).length = b.length
        · rw [if_pos (by rw [c2])]
          obtain ⟨r, r1, r2, r3⟩ := e_isLess hN R2.1 (by omega) c2 h6 hbk hlt hblt
          refine w_vs R2.1.s0 (w_eq r1 ?_)
          by_cases c3 : r = 0
          · rw [if_pos c3]
            exact keep g2 J2' hbk (hO.same (fun _ => Or.inr ⟨c2, r2 c3⟩))
          · rw [if_neg c3]
            exact take g2 J2 h6 (hO.take h5 (Or.inr ⟨c2.symm, r3 c3⟩))
        · rw [if_neg (fun h => c2 ((nI_eq (by omega) (by omega)).mp h))]
          exact take g2 J2 h6 (hO.take h5 (Or.inl (by omega)))
    · have hk' : k < l.length := by omega
      rw [if_neg (nI_ge hk' (by omega)), if_neg (show ¬ nI 1 = 0 by decide), e_has (by omega) (by omega), Option.bind_some]
      by_cases eb : z / 2 ^ k % 2 = 1
      · rw [if_neg (bI_ne (decide_eq_true eb))]
        have g12 : zgi g2 (m + 12) k = nI (l.getD k 0) := by rw [J2.gi (by omega)]; exact T k hk'
        have hw8 := h8 k hk'
        refine w_rdR R2.1.s0 R2.1.r23 (w_rdR R2.1.s0 R2.1.r22 ?_)
        rw [a20_8 R2.1.s12 (by omega), g12, Option.bind_some]
        refine w_eq (e_spot hN R2.1.s13 hl8' (fun j hj => by rw [J2.gi (by omega)]; exact T' j hj) h8' (by omega)) ?_
        have hpk : ix l (l.getD k 0) = k := ix_get hne hk'
        have hmem := ln_mem (z := z) hne k (by omega)
        -- the word is laid
        have lay : ∀ (y s0 : Int32) (P : (Int32 × Int32 × Int32 × Int32 × ZS) ⊕ ((Int32 × Int32 × ZS) ⊕ (Int32 × ZS)) → Prop), (∀ g3, zJ (fun a _ => a = m + 21) g2 g3 → (∀ j, j < (ln l z (k + 1)).length → zgi g3 (m + 21) j = nI ((ln l z (k + 1)).getD j 0)) → P (.inl (nI (ln l z (k + 1)).length, y, s0, nI (k + 1), g3))) → zW (f_X12_alike_125 N m (nI l.length) (nI l'.length) (nI b.length) (nI z) (nI (ln l z k).length) (nI k) y s0 g2) P := by
          intro y s0 P hP
          unfold f_X12_alike_125 f_X12_alike_148
          refine w_rdR R2.1.s0 R2.1.r32 (w_rdR R2.1.s0 R2.1.r22 ?_)
          rw [a20_8 R2.1.s12 (by omega), g12, Option.bind_some, w20_8 R2.1.s21 (by omega), Option.bind_some, zW_some, c_1, nI_add, nI_add]
          have J3 : zJ (fun a _ => a = m + 21) g2 (zsetI g2 (m + 21) (ln l z k).length (nI (l.getD k 0))) := zJ.setI rfl
          have hP' := hP _ J3
          rw [ln_y eb, List.length_append, List.length_singleton] at hP'
          refine hP' (fun j hj => ?_)
          rw [gi_sI, getD_app']
          by_cases e : j < (ln l z k).length
          · rw [if_neg (by omega), if_pos e]; exact h6 j e
          · rw [if_pos ⟨rfl, by omega⟩, if_neg e, show j - (ln l z k).length = 0 by omega]; rfl
        have hbad : ¬ Ch l l' 0 0 (ln l z (k + 1)) → ¬ Ch l l' 0 0 (ln l z l.length) := fun hn hc => by
          obtain ⟨t, ht⟩ := ln_pre (l := l) (z := z) (k := k + 1) (l.length - (k + 1))
          rw [show k + 1 + (l.length - (k + 1)) = l.length by omega] at ht
          rw [ht] at hc
          exact hn hc.pre
        have bad : ∀ y : Int32, ¬ Ch l l' 0 0 (ln l z (k + 1)) → zW (f_X12_alike_125 N m (nI l.length) (nI l'.length) (nI b.length) (nI z) (nI (ln l z k).length) (nI k) y (0 : Int32) g2) (zI (fun s' : Int32 × Int32 × Int32 × Int32 × ZS => ∃ κ', κ' < κ ∧ ((∃ k, k ≤ l.length ∧ κ' = l.length - k + 1 ∧ s'.1 = nI (ln l z k).length ∧ lsI l' (ln l z k) s'.2.1 ∧ s'.2.2.1 = nI 1 ∧ s'.2.2.2.1 = nI k ∧ Ch l l' 0 0 (ln l z k) ∧ zJ (fun a _ => a = m + 21) g s'.2.2.2.2 ∧ ∀ j, j < (ln l z k).length → zgi s'.2.2.2.2 (m + 21) j = nI ((ln l z k).getD j 0)) ∨ (κ' = 0 ∧ s'.2.2.1 = nI 0 ∧ ¬ Ch l l' 0 0 (ln l z l.length) ∧ zJ (fun a _ => a = m + 21) g s'.2.2.2.2))) (zI (fun st : Int32 × Int32 × ZS => st.2.1 = nI (z + 1) ∧ zJ (S21 m) g st.2.2 ∧ ∃ b', OI l l' l.length (z + 1) b' ∧ st.1 = nI b'.length ∧ ∀ j, j < b'.length → zgi st.2.2 (m + 22) j = nI (b'.getD j 0)) Z)) := by
          intro y hn
          refine lay y 0 _ (fun g3 J3 _ => ?_)
          rw [zI_inl]
          exact ⟨0, by omega, Or.inr ⟨rfl, rfl, hbad hn, J2.trans J3⟩⟩
        by_cases cm : ix l' (l.getD k 0) < l'.length
        · rw [if_pos cm]
          -- is it behind the last one
          have good : Ch l l' 0 0 (ln l z (k + 1)) → zW (f_X12_alike_125 N m (nI l.length) (nI l'.length) (nI b.length) (nI z) (nI (ln l z k).length) (nI k) (nI (ix l' (l.getD k 0))) (1 : Int32) g2) (zI (fun s' : Int32 × Int32 × Int32 × Int32 × ZS => ∃ κ', κ' < κ ∧ ((∃ k, k ≤ l.length ∧ κ' = l.length - k + 1 ∧ s'.1 = nI (ln l z k).length ∧ lsI l' (ln l z k) s'.2.1 ∧ s'.2.2.1 = nI 1 ∧ s'.2.2.2.1 = nI k ∧ Ch l l' 0 0 (ln l z k) ∧ zJ (fun a _ => a = m + 21) g s'.2.2.2.2 ∧ ∀ j, j < (ln l z k).length → zgi s'.2.2.2.2 (m + 21) j = nI ((ln l z k).getD j 0)) ∨ (κ' = 0 ∧ s'.2.2.1 = nI 0 ∧ ¬ Ch l l' 0 0 (ln l z l.length) ∧ zJ (fun a _ => a = m + 21) g s'.2.2.2.2))) (zI (fun st : Int32 × Int32 × ZS => st.2.1 = nI (z + 1) ∧ zJ (S21 m) g st.2.2 ∧ ∃ b', OI l l' l.length (z + 1) b' ∧ st.1 = nI b'.length ∧ ∀ j, j < b'.length → zgi st.2.2 (m + 22) j = nI (b'.getD j 0)) Z)) := by
            intro hc
            refine lay _ 1 _ (fun g3 J3 h7 => ?_)
            rw [zI_inl]
            exact ⟨l.length - (k + 1) + 1, by omega, Or.inl ⟨k + 1, by omega, rfl, rfl, Or.inr ⟨ln l z k, l.getD k 0, ln_y eb, rfl⟩, rfl, rfl, hc, J2.trans J3, h7⟩⟩
          rcases h2 with ⟨e1, e2⟩ | ⟨r, w, e1, e2⟩
          · rw [e2, if_neg (fun h => (ng_le (by omega) (by omega)).mp h |>.2 |> (fun h => by omega))]
            refine good ?_
            rw [ln_y eb, e1]
            exact Ch.snoc_iff.mpr ⟨Ch.nil, ⟨⟨by rw [hpk]; exact hk', cm⟩, Nat.zero_le _, Nat.zero_le _⟩, fun v hv => absurd hv List.not_mem_nil⟩
          · have hwm : w ∈ ln l z k := by rw [e1]; exact List.mem_append.mpr (Or.inr List.mem_cons_self)
            have hwB := (h5.1 w hwm).1
            by_cases cl : ix l' (l.getD k 0) ≤ ix l' w
            · rw [e2, if_pos (nI_le cl (by have := hwB.2; omega))]
              refine bad _ (fun hc => ?_)
              rw [ln_y eb] at hc
              have := ((Ch.snoc_iff.mp hc).2.2 w hwm).2
              omega
            · rw [e2, if_neg (nI_ge (by omega) (by omega))]
              refine good ?_
              rw [ln_y eb]
              refine Ch.snoc_iff.mpr ⟨h5, ⟨⟨by rw [hpk]; exact hk', cm⟩, Nat.zero_le _, Nat.zero_le _⟩, fun v hv => ⟨by rw [hpk]; exact hmem v hv, ?_⟩⟩
              have hle : ix l' v ≤ ix l' w := by
                rw [e1] at hv h5
                rcases List.mem_append.mp hv with hv | hv
                · exact Nat.le_of_lt ((Ch.snoc_iff.mp h5).2.2 v hv).2
                · rw [List.mem_singleton.mp hv]; exact Nat.le_refl _
              omega
        · rw [if_neg cm]
          have hn : ¬ Ch l l' 0 0 (ln l z (k + 1)) := fun hc => by
            rw [ln_y eb] at hc
            exact cm (Ch.snoc_iff.mp hc).2.1.1.2
          have hle : -nI 1 ≤ y2 := by
            rcases h2 with ⟨-, e2⟩ | ⟨r, w, e1, e2⟩
            · rw [e2]; exact Int32.le_refl _
            · rw [e2]
              have hwm : w ∈ ln l z k := by rw [e1]; exact List.mem_append.mpr (Or.inr List.mem_cons_self)
              have := (h5.1 w hwm).1.2
              exact (ng_le2 (by omega) (by omega)).mpr trivial
          rw [if_pos hle]
          exact bad _ hn
      · rw [if_pos (bI_eq (decide_eq_false eb))]
        unfold f_X12_alike_148
        rw [zW_some, zI_inl, c_1, nI_add]
        refine ⟨l.length - (k + 1) + 1, by omega, Or.inl ⟨k + 1, by omega, rfl, ?_, ?_, rfl, rfl, ?_, J2, ?_⟩⟩
        · rw [ln_n eb]
        · rw [ln_n eb]; exact h2
        · rw [ln_n eb]; exact h5
        · rw [ln_n eb]; exact h6
  · dsimp only at h3 J2
    subst h3
    have hbk : ∀ j, j < b.length → zgi g2 (m + 22) j = nI (b.getD j 0) := fun j hj => by rw [J2.gi (by omega)]; exact hb j hj
    have J2' : zJ (S21 m) g g2 := J2.mono (fun a j z => Or.inl z)
    show zW (f_X12_alike_71 N m (nI l.length) (nI l'.length) (nI b.length) (nI z) y1 y2 (nI 0) y4 g2) _
    unfold f_X12_alike_71 f_X12_alike_154
    rw [if_pos (show nI 0 = 0 from rfl)]
    have hk := keep g2 J2' hbk (hO.same (fun h => absurd h h5))
    by_cases e : nI l.length ≤ y4
    · rw [if_pos e, zW_map]; exact hk
    · rw [if_neg e, if_pos (show nI 0 = 0 from rfl), zW_map]; exact hk
theorem k_alike (hN : 10000 ≤ N) (v u : Int32) : Call (fun x g => f_X11_alike N x v u g) (fun m g => f_X12_alike N m v u g) := call_q (fun x m c g A hC hA hc => by
  have n6 := hA.1.1
  cases hvu : (rb v 0 (an A) && rb u 0 (an A) && decide (v ≠ u)) with
  | false =>
    refine ⟨-1, aR A, hA.2.2.2.2.1, ?_, fun g' hR => ?_⟩
    · unfold QC f_X11_alike
      refine w_vs hC.1.1.s0 (w_eq (e_pair11 hC.1 hA) ?_)
      rw [if_pos (bI_eq hvu), zW_some]
      exact ⟨rfl, zJ.rfl, hC.2⟩
    · unfold QF f_X12_alike
      refine r_start hR hA (fun g1 J0 hR1 _ => ?_)
      refine w_vs hR1.1.1.s0 (w_eq (e_two12 hR1.1 hA) ?_)
      rw [if_pos (bI_eq hvu), zW_some]
      exact ⟨rfl, J0, hR1.2⟩
  | true =>
    obtain ⟨p, q, hp, hq, rfl, rfl⟩ := pair_t hvu (by omega)
    have hl8 : (sayA A (aB A p) (ame A p)).length ≤ 8 := says_len
    have hl8' : (sayA A (aB A q) (ame A q)).length ≤ 8 := says_len
    have h8 := fun j hj => (sayA_lt (A := A) (b := aB A p) (me := ame A p) (j := j) hj).1
    have h8' := fun j hj => (sayA_lt (A := A) (b := aB A q) (me := ame A q) (j := j) hj).1
    have hne : ∀ i j, i < j → j < (sayA A (aB A p) (ame A p)).length → (sayA A (aB A p) (ame A p)).getD i 0 ≠ (sayA A (aB A p) (ame A p)).getD j 0 := fun i j hij hj => sayA_ne hij hj
    obtain ⟨o, ho1, k, G, ho2, hM, hG, hk8, hJ, hX⟩ := c_alike hN hC.1 hA hp hq
    refine ⟨nI k, G.map wL, by rw [List.length_map, hG.2.1]; exact hk8, ?_, fun g' hR => ?_⟩
    · unfold QC f_X11_alike
      refine w_vs hC.1.1.s0 (w_eq (e_pair11 hC.1 hA) ?_)
      rw [if_neg (bI_ne hvu)]
      exact ⟨o, ho1, ho2, hJ, hX⟩
    · unfold QF f_X12_alike
      refine r_start hR hA (fun g1 J0 hR1 _ => ?_)
      refine w_vs hR1.1.1.s0 (w_eq (e_two12 hR1.1 hA) ?_)
      rw [if_neg (bI_ne hvu)]
      refine r_both hN hR1.1 hA hp hq (fun g2 g3 J3 T1 T2 R3 => ?_)
      dsimp only
      generalize hla : sayA A (aB A p) (ame A p) = l at *
      generalize hlb : sayA A (aB A q) (ame A q) = l' at *
      have h256 : 2 ^ l.length ≤ 2 ^ 8 := p2_le hl8
      have h1p : 1 ≤ 2 ^ l.length := Nat.pow_pos (by omega)
      refine zW_for (fun z (st : Int32 × Int32 × ZS) => 1 ≤ z ∧ st.2.1 = nI z ∧ zJ (S21 m) g3 st.2.2 ∧ ∃ b, OI l l' l.length z b ∧ st.1 = nI b.length ∧ ∀ j, j < b.length → zgi st.2.2 (m + 22) j = nI (b.getD j 0)) (2 ^ l.length) (fun z st hz hs => ?_) (fun st hs => ?_) (by omega) h1p ⟨Nat.le_refl _, rfl, zJ.rfl, [], ⟨Ch.nil, Nat.zero_le _, fun z' h1 h2 => by omega⟩, rfl, fun j hj => absurd hj (Nat.not_lt_zero j)⟩
      · obtain ⟨y1, y2, g4⟩ := st
        obtain ⟨a0, a1, J4, b, hO, a3, a4⟩ := hs
        dsimp only at a1 J4 a3 a4
        subst a1 a3
        have R4 := R3.keep hA (J4.toM (m := m)) (fun a j z => by omega)
        show zW (f_X12_alike_51 N m (nI l.length) (nI l'.length) (nI b.length) (nI z) g4) _
        unfold f_X12_alike_51
        rw [shl_e l.length (by omega), if_neg (nI_ge hz (by omega))]
        refine (r_set (Z := fun o => o.1 = nI k ∧ zM m (ScM m) g' o.2 ∧ RW o.2 m (G.map wL)) hN R4 hA hl8 hl8' h8 h8' hne (fun j hj => by rw [J4.gi (by omega)]; exact T1 j hj) (fun j hj => by rw [J4.gi (by omega)]; exact T2 j hj) hz hO a4).mono (fun r hr => ?_)
        cases r with
        | inl st =>
          obtain ⟨c1, J5, b', c2, c3, c4⟩ := hr
          exact ⟨by omega, c1, J4.trans J5, b', c2, c3, c4⟩
        | inr o => exact hr
      · obtain ⟨y1, y2, g4⟩ := st
        obtain ⟨a0, a1, J4, b, hO, a3, a4⟩ := hs
        dsimp only at a1 J4 a3 a4
        subst a1 a3
        have R4 := R3.keep hA (J4.toM (m := m)) (fun a j z => by omega)
        have hbG : b = G := hO.best hne hM hG
        have hb8 := hO.2.1
        show zW (f_X12_alike_51 N m (nI l.length) (nI l'.length) (nI b.length) (nI (2 ^ l.length)) g4) _
        unfold f_X12_alike_51
        rw [shl_e l.length (by omega), if_pos (nI_le (Nat.le_refl _) (by omega)), zW_map]
        refine w_rdR R4.1.s0 R4.1.r33 (w_vs R4.1.s0 ?_)
        refine (s_tellList hN R4.1 R4.1.s22 (by omega) a4 (by omega)).bind (fun g5 h5 => ?_)
        rw [zW_some]
        refine ⟨by rw [hbG, hG.2.1], (J0.trans (J3.mono (fun a j z => by omega))).trans ((((J4.mono (fun a j z => by omega)).trans (h5.1.mono (S' := ScM m) (fun a j z => by omega))).toM (m := m))), ?_⟩
        rw [← hbG]; exact h5.2)
end AZ
