/-! ===== String.indexOf on the letters of a rule ===== -/
def zfl : Cond → List Cond
  | .and a b => zfl a ++ zfl b
  | c => [c]
theorem zfl_all {args : Array Value} {s : State} : ∀ {c : Cond}, c.before args s = true → ∀ w ∈ zfl c, w.before args s = true := by
  intro c
  induction c with
  | and a b iha ihb =>
    intro h w hw
    rw [Cond.before_and, Bool.and_eq_true] at h
    rcases List.mem_append.mp hw with h1 | h1
    · exact iha h.1 w h1
    · exact ihb h.2 w h1
  | _ => intro h w hw; (simp only [zfl, List.mem_singleton] at hw); subst hw; exact h
theorem zNa {D : ZD} (h : zF D) (i : Nat) {w : Cond} (hi : (zfl narrow_1)[i]? = some w) : w.before D.1.2.2 (zs0 D) = true := by
  have h2 := h.2
  rw [Cond.before_and, Bool.and_eq_true] at h2
  exact zfl_all h2.2 w (List.mem_of_getElem? hi)
def zstr : List Int32 := [110, 102, 108, 116, 119, 104, 118]
abbrev zA (D : ZD) : Nat → Prop := fun q => (zs0 D).heap.size ≤ q
abbrev ztm : Term := .string RX5 64
def zSf (a d : Nat) (A : Nat → Prop) (U : State) (H : Heap) : Prop := va_O RJ0 a A U H ∧ va_OF RJ0 "coder" "B" (.int 0) a A U H ∧ va_OF RJ0 "value" "[B" (.ref d) a A U H ∧ va_T .byte d 7 (fun j => .int (zstr.getD j 0)) A U H ∧ va_Z RJ0 "COMPACT_STRINGS" "Z" (.int 1) A U H
def zSa (D : ZD) (a d : Nat) : Prop := vk_R RX5 64 "nfltwhv" a (zs0 D) ∧ zSf a d (zA D) (zs0 D) (zs0 D).heap
theorem zSf_at {D : ZD} {B0 : Nat} {g : ZS} {U : State} {H : Heap} {a d : Nat} (h : zSf a d (zA D) (zs0 D) (zs0 D).heap) (hK : zK D U) (hR : zR D B0 g H) : zSf a d (zA D) U H := by
  obtain ⟨h1, h2, h3, h4, h5⟩ := h
  have hvm : (zs0 D).vm.Alike U.vm := hK.2.2.2.2.2.2.2.2.alike
  have hq : ∀ q : Nat, q < (zs0 D).heap.size → ¬ zA D q → H[q]? = (zs0 D).heap[q]? := fun q hq _ => hR.2.2.2.2.2 q (Nat.lt_of_lt_of_le hq hR.2.2.2.2.1)
  exact ⟨(va_O.moved hvm h1).kept hq, (va_OF.moved hvm h2).kept hq, (va_OF.moved hvm h3).kept hq, (va_T.moved hvm h4).kept hq, (va_Z.moved hvm h5).kept hq⟩
theorem zinT {w : Cond} {D : ZD} (h : zF D) (hw : w ∈ tables_1) : w.before D.1.2.2 (zs0 D) = true := h.1 w (List.mem_append_right _ hw)
theorem t_sr : Cond.stringRef RX5 64 "nfltwhv" ∈ tables_1 := List.mem_append_right _ (List.mem_append_left _ (List.mem_of_getElem? (i := 217) (by decide +kernel)))
theorem t_ls : Cond.laysStatic RJ0 "COMPACT_STRINGS" "Z" ∈ tables_1 := List.mem_append_right _ (List.mem_append_left _ (List.mem_of_getElem? (i := 231) (by decide +kernel)))
theorem t_is : Cond.initialized RJ0 ∈ tables_1 := List.mem_append_left _ (List.mem_of_getElem? (i := 13) (by decide +kernel))
theorem zSa_of {D : ZD} (h : zF D) : ∃ a d, zSa D a d := by
  have hA : ∀ a : Nat, a < (zs0 D).heap.size → ¬ zA D a := fun a ha hb => Nat.lt_irrefl _ (Nat.lt_of_lt_of_le ha hb)
  obtain ⟨adK, adV, ⟨hS, -⟩, hE⟩ := vk_Sof (args := D.1.2.2) (s := zs0 D) (N := 1) (tm := fun _ => ztm) (len := [7]) (byt := [zstr]) (A := zA D)
    (fun i hi => by
      have : i = 0 := by omega
      subst this; decide)
    (fun i hi => zNa h 52 (by decide +kernel)) (fun i hi => zNa h 53 (by decide +kernel)) (fun i hi => zNa h 54 (by decide +kernel))
    (fun i hi => by
      have : i = 0 := by omega
      subst this; exact zNa h 55 (by decide +kernel))
    (fun i hi j hj => by
      have : i = 0 := by omega
      subst this
      have hj' : j < 7 := hj
      rcases (show j = 0 ∨ j = 1 ∨ j = 2 ∨ j = 3 ∨ j = 4 ∨ j = 5 ∨ j = 6 by omega) with e | e | e | e | e | e | e
      · subst e; exact zNa h 56 (by decide +kernel)
      · subst e; exact zNa h 57 (by decide +kernel)
      · subst e; exact zNa h 58 (by decide +kernel)
      · subst e; exact zNa h 59 (by decide +kernel)
      · subst e; exact zNa h 60 (by decide +kernel)
      · subst e; exact zNa h 61 (by decide +kernel)
      · subst e; exact zNa h 62 (by decide +kernel))
    (fun i j hi hj hij => absurd (by omega : i = j) hij) hA
  obtain ⟨h1, h2, h3, h4⟩ := hS 0 (by decide)
  have hz := va_Zof (v := .int 1) (A := zA D) (zinT h t_ls) (zinT h t_is) (va_eqi (zNa h 2 (by decide +kernel))) hA
  have hsr : (Cond.stringRef RX5 64 "nfltwhv").before #[] (zs0 D) = true := by
    have := zinT h t_sr
    first | exact this | exact va_tabs rfl rfl this
  have hev : (Term.string RX5 64).eval #[] (zs0 D) none [] (zs0 D) = some (.ref (adK 0)) := by
    have := hE 0 (by decide)
    first | exact this | (rw [Term.string_eval_of_vm (args := #[]) rfl]; exact this)
  exact ⟨adK 0, adV 0, ⟨hsr, hev⟩, h1, h2, h3, h4, hz⟩
section ZST
variable {β : Type} {Y : ZY} {X : ZX} {kc ks pc pc' : Nat} {lo : List (Option Value)} {st : List Value} {g : ZS} {t : Option β} {K : β → Prop}
theorem J1R {st' : List Value} (h : zOk Y X → ∀ (ls : Array Slot) (H : Heap) (locs : List Loc) (cells slots : Nat), lv_has ls (yn Y) (zpairs 0 lo) → zR (xD X) (xB X) g H → zWt Y X H locs cells slots (F0 (xm X) pc' ls st') → zWt Y X H locs cells slots (F0 (xm X) pc ls st)) (k : J Y X kc ks pc' lo st' g t K) : J Y X kc ks pc lo st g t K :=
  fun ok r hr hK ls H locs cells slots hl hR hlo hc hs => h ok ls H locs cells slots hl hR (k ok r hr hK ls H locs cells slots hl hR hlo hc hs)
theorem J_gsc {a d idx : Nat} (hS : zSa (xD X) a d) (hw : Cond.fieldLink (yo Y) idx RJ0 "COMPACT_STRINGS" "Z" ∈ ztbl) (dd : Dc Y pc (.getstatic idx) 3 pc') (k : J Y X kc ks pc' lo (.int 1 :: st) g t K) : J Y X kc ks pc lo st g t K :=
  J1R (fun ok ls H locs cells slots hl hR kk => by
    obtain ⟨d1, d2⟩ := dd
    subst d2
    obtain ⟨-, -, -, -, cf, kf, fi, f, a1, cell, h1, h2, h3, h4, h5, h6, h7, h8⟩ := zSf_at hS.2 ok.2.2.2.2.2.1 hR
    exact W.gets ok.1 ok.2.1 ok.2.2.2.1 (ok.2.2.2.2.1 _ hw) h1 h2 h3 h4 h5 (by intro e; rw [e] at h6; cases h6) h7 (g := F0 (xm X) pc ls st) rfl d1 kk) k
theorem J_gfo {a d idx : Nat} {n ds : String} {v : Value} (hv : zSf a d (zA (xD X)) (zs0 (xD X)) (zs0 (xD X)).heap) (hF : ∀ U H, zSf a d (zA (xD X)) U H → va_OF RJ0 n ds v a (zA (xD X)) U H) (hw : Cond.fieldLink (yo Y) idx RJ0 n ds ∈ ztbl) (dd : Dc Y pc (.getfield idx) 3 pc') (k : J Y X kc ks pc' lo (v :: st) g t K) : J Y X kc ks pc lo (.ref a :: st) g t K :=
  J1R (fun ok ls H locs cells slots hl hR kk => by
    obtain ⟨d1, d2⟩ := dd
    subst d2
    obtain ⟨cf, k, i, f, cell, h1, h2, h3, h4, h5, h6⟩ := hF _ _ (zSf_at hv ok.2.2.2.2.2.1 hR)
    exact W.getf ok.1 ok.2.1 ok.2.2.2.1 (ok.2.2.2.2.1 _ hw) h1 h2 h3 h4 h5 (g := F0 (xm X) pc ls (.ref a :: st)) rfl rfl d1 kk) k
theorem J_blen {a d : Nat} (hS : zSa (xD X) a d) (dd : Dc Y pc .arraylength 1 pc') (k : J Y X kc ks pc' lo (.int 7 :: st) g t K) : J Y X kc ks pc lo (.ref d :: st) g t K :=
  J1R (fun ok ls H locs cells slots hl hR kk => by
    obtain ⟨d1, d2⟩ := dd
    subst d2
    obtain ⟨-, -, -, ⟨cell, h1, h2, h3, h4, h5, h6, h7⟩, -⟩ := zSf_at hS.2 ok.2.2.2.2.2.1 hR
    exact W.alen ok.1 ok.2.1 h1 h2 h5 (g := F0 (xm X) pc ls (.ref d :: st)) rfl rfl d1 kk) k
theorem J_bald7 {a d i : Nat} (hS : zSa (xD X) a d) (hi : i < 7) (dd : Dc Y pc .baload 1 pc') (k : J Y X kc ks pc' lo (.int (zstr.getD i 0) :: st) g t K) : J Y X kc ks pc lo (.int (nI i) :: .ref d :: st) g t K :=
  J1R (fun ok ls H locs cells slots hl hR kk => by
    obtain ⟨d1, d2⟩ := dd
    subst d2
    obtain ⟨-, -, -, ⟨cell, h1, h2, h3, h4, h5, h6, h7⟩, -⟩ := zSf_at hS.2 ok.2.2.2.2.2.1 hR
    refine W.bald ok.1 ok.2.1 h1 h2 h3 (j := nI i) (v := .int (zstr.getD i 0)) (nI_in (Nat.lt_of_lt_of_le hi (Nat.le_refl 7)) (by decide) |> fun q => fun z => q (z.imp id (fun w => Nat.le_trans h4 w))) ?_ (g := F0 (xm X) pc ls (.int (nI i) :: .ref d :: st)) rfl rfl d1 kk
    rw [nI_clamp (by omega)]
    exact h6 i hi) k
theorem J_callVS {δ : Type} {idx n a d : Nat} {y : MethodName} {Yc : ZY} {av : List Value} {tc : Option δ} {vo : δ → Option Value} {so : δ → ZS} {k : δ → Option β} {st0 : List Value} (hS : zSa (xD X) a d) (dd : Dc Y pc (.invokevirtual idx) 3 pc') (hl1 : Cond.methodLink (yo Y) idx y ∈ ztbl) (hin : Cond.instanceMethod y ∈ ztbl) (hse : Cond.selects RJ0 y y ∈ ztbl) (hw : zCw y Yc n) (hc : ∀ r, tc = some r → zCt (xl X) (xD X) (xB X) y Yc (.ref a :: av) g (vo r) (so r)) (hst : st0 = av.reverse ++ .ref a :: st) (hn : av.length = n) (hd : yd Yc + 1 ≤ yd Y) (h8 : (st.map fun v => v.category).sum ≤ 8) (h1 : kc + yk Yc ≤ yk Y) (h2 : ks + yt Yc ≤ yt Y)
    (hk : ∀ r, tc = some r → J Y X (kc + yk Yc) (ks + yt Yc) pc' lo ((vo r).toList ++ st) (so r) (k r) K) : J Y X kc ks pc lo st0 g (tc.bind k) K := by
  intro ok r hr hK ls H locs cells slots hl hR hlo hcc hss
  obtain ⟨d1, d2⟩ := dd
  subst d2
  obtain ⟨rc, hrc, hr⟩ := zbind hr
  obtain ⟨w1, w2, w3, w4⟩ := hw
  have ok' := ok
  obtain ⟨o1, o2, o3, o4, o5, o6, o7, o8, o9, o10, o11, o12, o13, o14⟩ := ok'
  obtain ⟨⟨cell, q1, q2, q3, -⟩, -⟩ := zSf_at hS.2 o6 hR
  exact zafter (Y := Y) (Yc := Yc) (a := (Value.ref a :: av).toArray) (v := vo rc) (g' := so rc) hl hlo (va_runV (Ts := ztbl) (As := av) (own := yo Y) (index := idx) (n := n) (C := RJ0) ⟨o1, o2, o3, o4, o5⟩ (hc rc hrc) ⟨callB_of n o5 (zgood ⟨w1, w2, w3, w4⟩) rfl rfl rfl (o5 _ w1) (o5 _ hl1) w3 ⟨by show yd Yc + 1 ≤ _; omega, by show 8 + (yn Yc + 11) + 64 * yd Yc ≤ _; omega⟩, o5 _ hin, o5 _ hse⟩ ⟨zPc.blind, ⟨cell, q1, q2, q3⟩, zPc.pre o6 hR⟩ rfl hn hl.1 hst (lv_room h8) d1 ⟨by omega, by omega⟩) (fun H' locs' hR' hlo' => hk rc hrc ok r hr hK ls H' locs' _ _ hl hR' hlo' (by omega) (by omega))
end ZST
theorem zCt_ofD {δ : Type} {Y : ZY} {lo : List (Option Value)} {g : ZS} {l : Launch} {D : ZD} {B0 : Nat} {y : MethodName} {av : List Value} {tc : Option δ} {vo : δ → Option Value} {so : δ → ZS} (hy : plainFor y = true) (ho : yo Y = y.cls) (hi : yi Y = true → y.name = "<init>") (hlo : lv_args 0 av = zpairs 0 lo) (hlen : (lg_sl av).length ≤ yn Y) (hJ : ∀ X : ZX, xD X = D → J Y X 0 0 0 lo [] g tc (fun r => xK X (vo r) (so r))) : ∀ r, tc = some r → zCt l D B0 y Y av g (vo r) (so r) := by
  intro r hr
  refine va_MetF (cc := yc Y) (maxL := yn Y) (ret := yr Y) hy rfl ?_
  intro p e s m args below meth c s₁ B hml hv
  obtain ⟨rfl, hR, hK, hB⟩ := hv
  have hts := atoms_spec (ws := .code y (yc Y) (yn Y) (yr Y) :: ztbl) B.pre
  have hown : s.vm.findClass y.cls = some m.cls := findClass_of_methodNamed B.named
  have hin : meth.name = y.name := (name_of_methodNamed B.named B.method).1
  have hl := lv_entry av (n := yn Y) hlen
  rw [lg_entry_eq]
  generalize (lg_sl av ++ List.replicate (yn Y - (lg_sl av).length) Slot.unset).toArray = ls at hl ⊢
  rw [hlo] at hl
  exact hJ (p, l, e, _, s, m, _, below, meth, c, (fun v1 g1 => v1 = vo r ∧ g1 = so r), D, B0, _) rfl ⟨B.exec, B.bytes, hml, by rw [ho]; exact hown, fun w hw => hts w (List.mem_cons_of_mem _ hw), hK, B.notSynchronized, B.returns, fun h => by show meth.name = _; rw [hin]; exact hi h, Nat.le_refl _, Nat.le_refl _, Nat.le_refl _, Nat.le_refl _, hB, hR.2.2.2.2, fun _ h => h⟩ r hr ⟨rfl, rfl⟩ ls s.heap [] 0 0 hl hR (fun _ h => by cases h) (Nat.le_refl _) (Nat.le_refl _)
abbrev Y_ich : ZY := (cJ1_indexOfChar_4cfef, 6, RJ1, some .int, false, 1, 0, 0)
theorem w_cw_Y_ich : zCw yJ1_indexOfChar_4cfef Y_ich 4 := ⟨zwt1 14 (by decide +kernel) gd_initialized, zwt3 14 (by decide +kernel) gd_code, by decide +kernel, by decide⟩
theorem w_st_Y_ich : Cond.static yJ1_indexOfChar_4cfef ∈ ztbl := zwt3 13 (by decide +kernel) gd_static
abbrev Y_ix4 : ZY := (cJ1_indexOf_4cfef, 4, RJ1, some .int, false, 2, 0, 0)
theorem w_cw_Y_ix4 : zCw yJ1_indexOf_4cfef Y_ix4 4 := ⟨zwt1 14 (by decide +kernel) gd_initialized, zwt3 2 (by decide +kernel) gd_code, by decide +kernel, by decide⟩
theorem w_st_Y_ix4 : Cond.static yJ1_indexOf_4cfef ∈ ztbl := zwt3 1 (by decide +kernel) gd_static
abbrev Y_can : ZY := (cJ1_canEncode_9a6ad, 1, RJ1, some .boolean, false, 1, 0, 0)
theorem w_cw_Y_can : zCw yJ1_canEncode_9a6ad Y_can 1 := ⟨zwt1 14 (by decide +kernel) gd_initialized, zwt3 5 (by decide +kernel) gd_code, by decide +kernel, by decide⟩
theorem w_st_Y_can : Cond.static yJ1_canEncode_9a6ad ∈ ztbl := zwt3 4 (by decide +kernel) gd_static
abbrev Y_len : ZY := (cJ0_length_8abf5, 1, RJ0, some .int, false, 2, 0, 0)
theorem w_cw_Y_len : zCw yJ0_length_8abf5 Y_len 0 := ⟨zwt1 13 (by decide +kernel) gd_initialized, zwt2 235 (by decide +kernel) gd_code, by decide +kernel, by decide⟩
theorem w_in_Y_len : Cond.instanceMethod yJ0_length_8abf5 ∈ ztbl := zwt2 233 (by decide +kernel) gd_instanceMethod
theorem w_se_Y_len : Cond.selects RJ0 yJ0_length_8abf5 yJ0_length_8abf5 ∈ ztbl := zwt2 234 (by decide +kernel) gd_selects
abbrev Y_cod : ZY := (cJ0_coder_7d493, 1, RJ0, some .byte, false, 1, 0, 0)
theorem w_cw_Y_cod : zCw yJ0_coder_7d493 Y_cod 0 := ⟨zwt1 13 (by decide +kernel) gd_initialized, zwt2 239 (by decide +kernel) gd_code, by decide +kernel, by decide⟩
theorem w_in_Y_cod : Cond.instanceMethod yJ0_coder_7d493 ∈ ztbl := zwt2 237 (by decide +kernel) gd_instanceMethod
theorem w_se_Y_cod : Cond.selects RJ0 yJ0_coder_7d493 yJ0_coder_7d493 ∈ ztbl := zwt2 238 (by decide +kernel) gd_selects
abbrev Y_lat : ZY := (cJ0_isLatin1_aae02, 1, RJ0, some .boolean, false, 1, 0, 0)
theorem w_cw_Y_lat : zCw yJ0_isLatin1_aae02 Y_lat 0 := ⟨zwt1 13 (by decide +kernel) gd_initialized, zwt2 229 (by decide +kernel) gd_code, by decide +kernel, by decide⟩
theorem w_in_Y_lat : Cond.instanceMethod yJ0_isLatin1_aae02 ∈ ztbl := zwt2 227 (by decide +kernel) gd_instanceMethod
theorem w_se_Y_lat : Cond.selects RJ0 yJ0_isLatin1_aae02 yJ0_isLatin1_aae02 ∈ ztbl := zwt2 228 (by decide +kernel) gd_selects
abbrev Y_ix2 : ZY := (cJ0_indexOf_7cf53, 3, RJ0, some .int, false, 3, 0, 0)
theorem w_cw_Y_ix2 : zCw yJ0_indexOf_7cf53 Y_ix2 2 := ⟨zwt1 13 (by decide +kernel) gd_initialized, zwt2 225 (by decide +kernel) gd_code, by decide +kernel, by decide⟩
theorem w_in_Y_ix2 : Cond.instanceMethod yJ0_indexOf_7cf53 ∈ ztbl := zwt2 223 (by decide +kernel) gd_instanceMethod
theorem w_se_Y_ix2 : Cond.selects RJ0 yJ0_indexOf_7cf53 yJ0_indexOf_7cf53 ∈ ztbl := zwt2 224 (by decide +kernel) gd_selects
abbrev Y_ix1 : ZY := (cJ0_indexOf_0f7a4, 2, RJ0, some .int, false, 4, 0, 0)
theorem w_cw_Y_ix1 : zCw yJ0_indexOf_0f7a4 Y_ix1 1 := ⟨zwt1 13 (by decide +kernel) gd_initialized, zwt2 221 (by decide +kernel) gd_code, by decide +kernel, by decide⟩
theorem w_in_Y_ix1 : Cond.instanceMethod yJ0_indexOf_0f7a4 ∈ ztbl := zwt2 219 (by decide +kernel) gd_instanceMethod
theorem w_se_Y_ix1 : Cond.selects RJ0 yJ0_indexOf_0f7a4 yJ0_indexOf_0f7a4 ∈ ztbl := zwt2 220 (by decide +kernel) gd_selects
theorem w_m_RX5_66 : Cond.methodLink RX5 66 yJ0_indexOf_0f7a4 ∈ ztbl := zwt2 218 (by decide +kernel) gd_methodLink
theorem w_m_RJ0_633 : Cond.methodLink RJ0 633 yJ0_indexOf_7cf53 ∈ ztbl := zwt2 222 (by decide +kernel) gd_methodLink
theorem w_m_RJ0_492 : Cond.methodLink RJ0 492 yJ0_isLatin1_aae02 ∈ ztbl := zwt2 226 (by decide +kernel) gd_methodLink
theorem w_m_RJ0_505 : Cond.methodLink RJ0 505 yJ0_length_8abf5 ∈ ztbl := zwt2 232 (by decide +kernel) gd_methodLink
theorem w_m_RJ0_335 : Cond.methodLink RJ0 335 yJ0_coder_7d493 ∈ ztbl := zwt2 236 (by decide +kernel) gd_methodLink
theorem w_m_RJ0_637 : Cond.methodLink RJ0 637 yJ1_indexOf_4cfef ∈ ztbl := zwt3 0 (by decide +kernel) gd_methodLink
theorem w_m_RJ1_88 : Cond.methodLink RJ1 88 yJ1_canEncode_9a6ad ∈ ztbl := zwt3 3 (by decide +kernel) gd_methodLink
theorem w_m_RJ1_92 : Cond.methodLink RJ1 92 yJ9_max_7cf53 ∈ ztbl := zwt3 6 (by decide +kernel) gd_methodLink
theorem w_m_RJ1_38 : Cond.methodLink RJ1 38 yJ9_min_7cf53 ∈ ztbl := zwt3 9 (by decide +kernel) gd_methodLink
theorem w_m_RJ1_95 : Cond.methodLink RJ1 95 yJ1_indexOfChar_4cfef ∈ ztbl := zwt3 12 (by decide +kernel) gd_methodLink
theorem w_f_RJ0_38 : Cond.fieldLink RJ0 38 RJ0 "COMPACT_STRINGS" "Z" ∈ ztbl := zwt2 230 (by decide +kernel) gd_fieldLink
theorem w_f_RJ0_15 : Cond.fieldLink RJ0 15 RJ0 "coder" "B" ∈ ztbl := zwt8 65 (by decide +kernel) gd_fieldLink
theorem w_f_RJ0_9 : Cond.fieldLink RJ0 9 RJ0 "value" "[B" ∈ ztbl := zwt8 66 (by decide +kernel) gd_fieldLink
def f_can (c : Int32) : Option Int32 := if c < 0 then some 0 else if 255 < c then some 0 else some 1
theorem j_can {X : ZX} (c : Int32) (g : ZS) {K : Int32 → Prop} (h0 : ∀ v, K v → xK X (some (.int v)) g) : J Y_can X 0 0 0 [some (.int c)] [] g (f_can c) K := by
  have h15 : J Y_can X 0 0 15 [some (.int c)] [] g (some 0) K := by
    refine J_iconst 0 rfl (show Dc Y_can 15 (.iconst 0) 1 16 from ⟨by decide +kernel, rfl⟩) ?_
    exact J_retz (ty := .boolean) rfl (show Dc Y_can 16 (.ireturn) 1 17 from ⟨by decide +kernel, rfl⟩) rfl (h0 _) (by decide) (by decide)
  unfold f_can
  refine J_iload_n rfl rfl (show Dc Y_can 0 (.iload_n 0) 1 1 from ⟨by decide +kernel, rfl⟩) ?_
  refine J_if_lt (show Dc Y_can 1 (.ifCond .lt 14) 3 4 from ⟨by decide +kernel, rfl⟩) rfl (fun _ => h15) (fun _ => ?_)
  refine J_iload_n rfl rfl (show Dc Y_can 4 (.iload_n 0) 1 5 from ⟨by decide +kernel, rfl⟩) ?_
  refine J_sipush _ rfl (show Dc Y_can 5 (.sipush 255) 3 8 from ⟨by decide +kernel, rfl⟩) ?_
  refine J_icmp_gt (show Dc Y_can 8 (.if_icmp .gt 7) 3 11 from ⟨by decide +kernel, rfl⟩) rfl (fun _ => h15) (fun _ => ?_)
  refine J_iconst 1 rfl (show Dc Y_can 11 (.iconst 1) 1 12 from ⟨by decide +kernel, rfl⟩) ?_
  refine J_goto (show Dc Y_can 12 (.goto 4) 3 15 from ⟨by decide +kernel, rfl⟩) rfl ?_
  exact J_retz (ty := .boolean) rfl (show Dc Y_can 16 (.ireturn) 1 17 from ⟨by decide +kernel, rfl⟩) rfl (h0 _) (by decide) (by decide)
theorem c_can {l : Launch} {D : ZD} {B0 : Nat} (c : Int32) (g : ZS) : ∀ r, f_can c = some r → zCt l D B0 yJ1_canEncode_9a6ad Y_can [.int c] g (some (.int r)) g :=
  zCt_ofF (lo := [some (.int c)]) (vo := fun r => some (.int r)) (so := fun _ => g) (by decide +kernel) rfl (fun h => by cases h) rfl (Nat.le_of_ble_eq_true rfl) (fun X => j_can c g (fun v h => h))
def zix (b : Int32) : List Int32 → Nat → Int32
  | [], _ => -1
  | x :: l, i => if x = b then nI i else zix b l (i + 1)
theorem zsome_if {α : Type} {c : Prop} [Decidable c] {a b : α} : some (if c then a else b) = if c then some a else some b := by split <;> rfl
theorem j_ich_7 {X : ZX} {a d : Nat} (hS : zSa (xD X) a d) (ch b : Int32) (g : ZS) {K : Int32 → Prop} (h0 : ∀ v, K v → xK X (some (.int v)) g) : ∀ n i : Nat, i + n = 7 → J Y_ich X 0 0 7 [some (.ref d), some (.int ch), some (.int 0), some (.int 7), some (.int b), some (.int (nI i))] [] g (some (zix b (zstr.drop i) i)) K := by
  intro n
  induction n with
  | zero =>
    intro i hi
    have : i = 7 := by omega
    subst this
    refine J_iload rfl (show Dc Y_ich 7 (.iload 5) 2 9 from ⟨by decide +kernel, rfl⟩) ?_
    refine J_iload_n rfl rfl (show Dc Y_ich 9 (.iload_n 3) 1 10 from ⟨by decide +kernel, rfl⟩) ?_
    refine J_eq (t' := if (7 : Int32) ≤ nI 7 then some (-1) else none) (by rw [if_pos (by decide)]; rfl) ?_
    refine J_icmp_ge (show Dc Y_ich 10 (.if_icmp .ge 21) 3 13 from ⟨by decide +kernel, rfl⟩) rfl (fun _ => ?_) (fun h => absurd (by decide) h)
    refine J_iconst (-1) rfl (show Dc Y_ich 31 (.iconst (-1)) 1 32 from ⟨by decide +kernel, rfl⟩) ?_
    exact J_reti (show Dc Y_ich 32 (.ireturn) 1 33 from ⟨by decide +kernel, rfl⟩) rfl (h0 _) (by decide) (by decide)
  | succ n ih =>
    intro i hi
    have hdrop : zstr.drop i = zstr.getD i 0 :: zstr.drop (i + 1) := by
      rcases (show i = 0 ∨ i = 1 ∨ i = 2 ∨ i = 3 ∨ i = 4 ∨ i = 5 ∨ i = 6 by omega) with e | e | e | e | e | e | e <;> (subst e; rfl)
    rw [hdrop, zix, zsome_if]
    refine J_iload rfl (show Dc Y_ich 7 (.iload 5) 2 9 from ⟨by decide +kernel, rfl⟩) ?_
    refine J_iload_n rfl rfl (show Dc Y_ich 9 (.iload_n 3) 1 10 from ⟨by decide +kernel, rfl⟩) ?_
    refine J_eq (t' := if (7 : Int32) ≤ nI i then none else _) (if_neg (nI_ge (a := i) (b := 7) (by omega) (by decide))).symm ?_
    refine J_icmp_ge (show Dc Y_ich 10 (.if_icmp .ge 21) 3 13 from ⟨by decide +kernel, rfl⟩) rfl (fun _ => J_none) (fun _ => ?_)
    refine J_aload_n rfl rfl (show Dc Y_ich 13 (.aload_n 0) 1 14 from ⟨by decide +kernel, rfl⟩) ?_
    refine J_iload rfl (show Dc Y_ich 14 (.iload 5) 2 16 from ⟨by decide +kernel, rfl⟩) ?_
    refine J_bald7 hS (by omega) (show Dc Y_ich 16 (.baload) 1 17 from ⟨by decide +kernel, rfl⟩) ?_
    refine J_iload rfl (show Dc Y_ich 17 (.iload 4) 2 19 from ⟨by decide +kernel, rfl⟩) ?_
    refine J_icmp_ne (show Dc Y_ich 19 (.if_icmp .ne 6) 3 22 from ⟨by decide +kernel, rfl⟩) rfl (fun _ => ?_) (fun _ => ?_)
    · refine J_iinc 1 _ (show Dc Y_ich 25 (.iinc 5 1) 3 28 from ⟨by decide +kernel, rfl⟩) rfl rfl (by decide) (by rfl) rfl ?_
      refine J_goto (show Dc Y_ich 28 (.goto (-21)) 3 31 from ⟨by decide +kernel, rfl⟩) rfl ?_
      rw [← nI_succ]
      exact ih (i + 1) (by omega)
    · refine J_iload rfl (show Dc Y_ich 22 (.iload 5) 2 24 from ⟨by decide +kernel, rfl⟩) ?_
      exact J_reti (show Dc Y_ich 24 (.ireturn) 1 25 from ⟨by decide +kernel, rfl⟩) rfl (h0 _) (by decide) (by decide)
theorem j_ich {X : ZX} {a d : Nat} (hS : zSa (xD X) a d) (ch : Int32) (g : ZS) {K : Int32 → Prop} (h0 : ∀ v, K v → xK X (some (.int v)) g) : J Y_ich X 0 0 0 [some (.ref d), some (.int ch), some (.int 0), some (.int 7), none, none] [] g (some (zix ch.toInt8.toInt32 zstr 0)) K := by
  refine J_iload_n rfl rfl (show Dc Y_ich 0 (.iload_n 1) 1 1 from ⟨by decide +kernel, rfl⟩) ?_
  refine J_i2b (show Dc Y_ich 1 (.i2b) 1 2 from ⟨by decide +kernel, rfl⟩) ?_
  refine J_istore _ (show Dc Y_ich 2 (.istore 4) 2 4 from ⟨by decide +kernel, rfl⟩) (by decide) (by rfl) rfl ?_
  refine J_iload_n rfl rfl (show Dc Y_ich 4 (.iload_n 2) 1 5 from ⟨by decide +kernel, rfl⟩) ?_
  refine J_istore _ (show Dc Y_ich 5 (.istore 5) 2 7 from ⟨by decide +kernel, rfl⟩) (by decide) (by rfl) rfl ?_
  exact j_ich_7 hS ch _ g h0 7 0 rfl
theorem c_ich {l : Launch} {D : ZD} {B0 : Nat} {a d : Nat} (hS : zSa D a d) (ch : Int32) (g : ZS) : ∀ r, some (zix ch.toInt8.toInt32 zstr 0) = some r → zCt l D B0 yJ1_indexOfChar_4cfef Y_ich [.ref d, .int ch, .int 0, .int 7] g (some (.int r)) g :=
  zCt_ofD (lo := [some (.ref d), some (.int ch), some (.int 0), some (.int 7), none, none]) (vo := fun r => some (.int r)) (so := fun _ => g) (by decide +kernel) rfl (fun h => by cases h) rfl (Nat.le_of_ble_eq_true rfl) (fun X hX => j_ich (hX ▸ hS) ch g (fun v h => h))
def zletter (c : Int32) : Int32 := if c < 0 then -1 else if 255 < c then -1 else zix c.toInt8.toInt32 zstr 0
theorem j_ix4 {X : ZX} {a d : Nat} (hS : zSa (xD X) a d) (ch : Int32) (g : ZS) {K : Int32 → Prop} (h0 : ∀ v, K v → xK X (some (.int v)) g) : J Y_ix4 X 0 0 0 [some (.ref d), some (.int ch), some (.int 0), some (.int 7)] [] g (some (zletter ch)) K := by
  have hlast : J Y_ix4 X 0 0 29 [some (.ref d), some (.int ch), some (.int 0), some (.int 7)] [] g (some (zix ch.toInt8.toInt32 zstr 0)) K := by
    refine J_aload_n rfl rfl (show Dc Y_ix4 29 (.aload_n 0) 1 30 from ⟨by decide +kernel, rfl⟩) ?_
    refine J_iload_n rfl rfl (show Dc Y_ix4 30 (.iload_n 1) 1 31 from ⟨by decide +kernel, rfl⟩) ?_
    refine J_iload_n rfl rfl (show Dc Y_ix4 31 (.iload_n 2) 1 32 from ⟨by decide +kernel, rfl⟩) ?_
    refine J_iload_n rfl rfl (show Dc Y_ix4 32 (.iload_n 3) 1 33 from ⟨by decide +kernel, rfl⟩) ?_
    refine J_eq (t' := (some (zix ch.toInt8.toInt32 zstr 0)).bind some) rfl ?_
    refine J_callSi (fun v => v) (fun _ => g) (show Dc Y_ix4 33 (.invokestatic 95) 3 36 from ⟨by decide +kernel, rfl⟩) w_m_RJ1_95 w_st_Y_ich w_cw_Y_ich (c_ich hS ch g) rfl rfl (by decide) (Nat.le_of_ble_eq_true rfl) (by decide) (by decide) (fun v => ?_)
    exact J_reti (show Dc Y_ix4 36 (.ireturn) 1 37 from ⟨by decide +kernel, rfl⟩) rfl (h0 _) (by decide) (by decide)
  refine J_eq (t' := (f_can ch).bind fun v => if v = 0 then some (-1) else (f_J9_max_7cf53 0 0).bind fun p => (f_J9_min_7cf53 7 7).bind fun q => if p < q then some (zix ch.toInt8.toInt32 zstr 0) else none) (by
    rw [show f_J9_max_7cf53 0 0 = some 0 from rfl, show f_J9_min_7cf53 7 7 = some 7 from rfl]
    unfold zletter f_can
    split
    · rfl
    · split <;> rfl) ?_
  refine J_iload_n rfl rfl (show Dc Y_ix4 0 (.iload_n 1) 1 1 from ⟨by decide +kernel, rfl⟩) ?_
  refine J_callSi (fun v => v) (fun _ => g) (show Dc Y_ix4 1 (.invokestatic 88) 3 4 from ⟨by decide +kernel, rfl⟩) w_m_RJ1_88 w_st_Y_can w_cw_Y_can (c_can ch g) rfl rfl (by decide) (Nat.le_of_ble_eq_true rfl) (by decide) (by decide) (fun v => ?_)
  refine J_if_ne (show Dc Y_ix4 4 (.ifCond .ne 5) 3 7 from ⟨by decide +kernel, rfl⟩) rfl (fun _ => ?_) (fun _ => ?_)
  · refine J_iload_n rfl rfl (show Dc Y_ix4 9 (.iload_n 2) 1 10 from ⟨by decide +kernel, rfl⟩) ?_
    refine J_iconst 0 rfl (show Dc Y_ix4 10 (.iconst 0) 1 11 from ⟨by decide +kernel, rfl⟩) ?_
    refine J_callS (vo := fun v => some (.int v)) (so := fun _ => g) (show Dc Y_ix4 11 (.invokestatic 92) 3 14 from ⟨by decide +kernel, rfl⟩) w_m_RJ1_92 w_st_J9_max_7cf53 w_cw_J9_max_7cf53 (c_J9_max_7cf53 0 0 g) rfl rfl (by decide) (Nat.le_of_ble_eq_true rfl) (by decide) (by decide) (fun p hp => ?_)
    obtain rfl : 0 = p := Option.some.inj ((show f_J9_max_7cf53 0 0 = some 0 from rfl).symm.trans hp)
    refine J_istore_n _ (show Dc Y_ix4 14 (.istore_n 2) 1 15 from ⟨by decide +kernel, rfl⟩) rfl (by decide) (by rfl) rfl ?_
    refine J_iload_n rfl rfl (show Dc Y_ix4 15 (.iload_n 3) 1 16 from ⟨by decide +kernel, rfl⟩) ?_
    refine J_aload_n rfl rfl (show Dc Y_ix4 16 (.aload_n 0) 1 17 from ⟨by decide +kernel, rfl⟩) ?_
    refine J_blen hS (show Dc Y_ix4 17 (.arraylength) 1 18 from ⟨by decide +kernel, rfl⟩) ?_
    refine J_callS (vo := fun v => some (.int v)) (so := fun _ => g) (show Dc Y_ix4 18 (.invokestatic 38) 3 21 from ⟨by decide +kernel, rfl⟩) w_m_RJ1_38 w_st_J9_min_7cf53 w_cw_J9_min_7cf53 (c_J9_min_7cf53 7 7 g) rfl rfl (by decide) (Nat.le_of_ble_eq_true rfl) (by decide) (by decide) (fun q hq => ?_)
    obtain rfl : 7 = q := Option.some.inj ((show f_J9_min_7cf53 7 7 = some 7 from rfl).symm.trans hq)
    refine J_istore_n _ (show Dc Y_ix4 21 (.istore_n 3) 1 22 from ⟨by decide +kernel, rfl⟩) rfl (by decide) (by rfl) rfl ?_
    refine J_iload_n rfl rfl (show Dc Y_ix4 22 (.iload_n 2) 1 23 from ⟨by decide +kernel, rfl⟩) ?_
    refine J_iload_n rfl rfl (show Dc Y_ix4 23 (.iload_n 3) 1 24 from ⟨by decide +kernel, rfl⟩) ?_
    exact J_icmp_lt (show Dc Y_ix4 24 (.if_icmp .lt 5) 3 27 from ⟨by decide +kernel, rfl⟩) rfl (fun _ => hlast) (fun h => absurd (by decide) h)
  · refine J_iconst (-1) rfl (show Dc Y_ix4 7 (.iconst (-1)) 1 8 from ⟨by decide +kernel, rfl⟩) ?_
    exact J_reti (show Dc Y_ix4 8 (.ireturn) 1 9 from ⟨by decide +kernel, rfl⟩) rfl (h0 _) (by decide) (by decide)
theorem c_ix4 {l : Launch} {D : ZD} {B0 : Nat} {a d : Nat} (hS : zSa D a d) (ch : Int32) (g : ZS) : ∀ r, some (zletter ch) = some r → zCt l D B0 yJ1_indexOf_4cfef Y_ix4 [.ref d, .int ch, .int 0, .int 7] g (some (.int r)) g :=
  zCt_ofD (lo := [some (.ref d), some (.int ch), some (.int 0), some (.int 7)]) (vo := fun r => some (.int r)) (so := fun _ => g) (by decide +kernel) rfl (fun h => by cases h) rfl (Nat.le_of_ble_eq_true rfl) (fun X hX => j_ix4 (hX ▸ hS) ch g (fun v h => h))
theorem j_lat {X : ZX} {a d : Nat} (hS : zSa (xD X) a d) (g : ZS) {K : Int32 → Prop} (h0 : ∀ v, K v → xK X (some (.int v)) g) : J Y_lat X 0 0 0 [some (.ref a)] [] g (some 1) K := by
  refine J_gsc hS w_f_RJ0_38 (show Dc Y_lat 0 (.getstatic 38) 3 3 from ⟨by decide +kernel, rfl⟩) ?_
  refine J_eq (t' := if (1 : Int32) = 0 then none else if (0 : Int32) = 0 then some 1 else none) (by decide) ?_
  refine J_if_eq (show Dc Y_lat 3 (.ifCond .eq 14) 3 6 from ⟨by decide +kernel, rfl⟩) rfl (fun _ => J_none) (fun _ => ?_)
  refine J_aload_n rfl rfl (show Dc Y_lat 6 (.aload_n 0) 1 7 from ⟨by decide +kernel, rfl⟩) ?_
  refine J_gfo hS.2 (fun U H h => h.2.1) w_f_RJ0_15 (show Dc Y_lat 7 (.getfield 15) 3 10 from ⟨by decide +kernel, rfl⟩) ?_
  refine J_if_ne (show Dc Y_lat 10 (.ifCond .ne 7) 3 13 from ⟨by decide +kernel, rfl⟩) rfl (fun _ => J_none) (fun _ => ?_)
  refine J_iconst 1 rfl (show Dc Y_lat 13 (.iconst 1) 1 14 from ⟨by decide +kernel, rfl⟩) ?_
  refine J_goto (show Dc Y_lat 14 (.goto 4) 3 17 from ⟨by decide +kernel, rfl⟩) rfl ?_
  exact J_retz (ty := .boolean) rfl (show Dc Y_lat 18 (.ireturn) 1 19 from ⟨by decide +kernel, rfl⟩) rfl (h0 _) (by decide) (by decide)
theorem c_lat {l : Launch} {D : ZD} {B0 : Nat} {a d : Nat} (hS : zSa D a d) (g : ZS) : ∀ r, some (1 : Int32) = some r → zCt l D B0 yJ0_isLatin1_aae02 Y_lat [.ref a] g (some (.int r)) g :=
  zCt_ofD (lo := [some (.ref a)]) (vo := fun r => some (.int r)) (so := fun _ => g) (by decide +kernel) rfl (fun h => by cases h) rfl (Nat.le_of_ble_eq_true rfl) (fun X hX => j_lat (hX ▸ hS) g (fun v h => h))
theorem j_cod {X : ZX} {a d : Nat} (hS : zSa (xD X) a d) (g : ZS) {K : Int32 → Prop} (h0 : ∀ v, K v → xK X (some (.int v)) g) : J Y_cod X 0 0 0 [some (.ref a)] [] g (some 0) K := by
  refine J_gsc hS w_f_RJ0_38 (show Dc Y_cod 0 (.getstatic 38) 3 3 from ⟨by decide +kernel, rfl⟩) ?_
  refine J_eq (t' := if (1 : Int32) = 0 then none else some 0) (by decide) ?_
  refine J_if_eq (show Dc Y_cod 3 (.ifCond .eq 10) 3 6 from ⟨by decide +kernel, rfl⟩) rfl (fun _ => J_none) (fun _ => ?_)
  refine J_aload_n rfl rfl (show Dc Y_cod 6 (.aload_n 0) 1 7 from ⟨by decide +kernel, rfl⟩) ?_
  refine J_gfo hS.2 (fun U H h => h.2.1) w_f_RJ0_15 (show Dc Y_cod 7 (.getfield 15) 3 10 from ⟨by decide +kernel, rfl⟩) ?_
  refine J_goto (show Dc Y_cod 10 (.goto 4) 3 13 from ⟨by decide +kernel, rfl⟩) rfl ?_
  exact J_retz (ty := .byte) rfl (show Dc Y_cod 14 (.ireturn) 1 15 from ⟨by decide +kernel, rfl⟩) rfl (h0 _) (by decide) (by decide)
theorem c_cod {l : Launch} {D : ZD} {B0 : Nat} {a d : Nat} (hS : zSa D a d) (g : ZS) : ∀ r, some (0 : Int32) = some r → zCt l D B0 yJ0_coder_7d493 Y_cod [.ref a] g (some (.int r)) g :=
  zCt_ofD (lo := [some (.ref a)]) (vo := fun r => some (.int r)) (so := fun _ => g) (by decide +kernel) rfl (fun h => by cases h) rfl (Nat.le_of_ble_eq_true rfl) (fun X hX => j_cod (hX ▸ hS) g (fun v h => h))
theorem j_len {X : ZX} {a d : Nat} (hS : zSa (xD X) a d) (g : ZS) {K : Int32 → Prop} (h0 : ∀ v, K v → xK X (some (.int v)) g) : J Y_len X 0 0 0 [some (.ref a)] [] g (some 7) K := by
  refine J_aload_n rfl rfl (show Dc Y_len 0 (.aload_n 0) 1 1 from ⟨by decide +kernel, rfl⟩) ?_
  refine J_gfo hS.2 (fun U H h => h.2.2.1) w_f_RJ0_9 (show Dc Y_len 1 (.getfield 9) 3 4 from ⟨by decide +kernel, rfl⟩) ?_
  refine J_blen hS (show Dc Y_len 4 (.arraylength) 1 5 from ⟨by decide +kernel, rfl⟩) ?_
  refine J_aload_n rfl rfl (show Dc Y_len 5 (.aload_n 0) 1 6 from ⟨by decide +kernel, rfl⟩) ?_
  refine J_eq (t' := (some (0 : Int32)).bind fun v => some 7) rfl ?_
  refine J_callVS (vo := fun v => some (.int v)) (so := fun _ => g) hS (show Dc Y_len 6 (.invokevirtual 335) 3 9 from ⟨by decide +kernel, rfl⟩) w_m_RJ0_335 w_in_Y_cod w_se_Y_cod w_cw_Y_cod (av := []) (c_cod hS g) rfl rfl (by decide) (Nat.le_of_ble_eq_true rfl) (by decide) (by decide) (fun v hv => ?_)
  obtain rfl : 0 = v := Option.some.inj hv
  refine J_ishr (show Dc Y_len 9 (.ishr) 1 10 from ⟨by decide +kernel, rfl⟩) ?_
  exact J_reti (show Dc Y_len 10 (.ireturn) 1 11 from ⟨by decide +kernel, rfl⟩) rfl (h0 _) (by decide) (by decide)
theorem c_len {l : Launch} {D : ZD} {B0 : Nat} {a d : Nat} (hS : zSa D a d) (g : ZS) : ∀ r, some (7 : Int32) = some r → zCt l D B0 yJ0_length_8abf5 Y_len [.ref a] g (some (.int r)) g :=
  zCt_ofD (lo := [some (.ref a)]) (vo := fun r => some (.int r)) (so := fun _ => g) (by decide +kernel) rfl (fun h => by cases h) rfl (Nat.le_of_ble_eq_true rfl) (fun X hX => j_len (hX ▸ hS) g (fun v h => h))
theorem j_ix2 {X : ZX} {a d : Nat} (hS : zSa (xD X) a d) (ch : Int32) (g : ZS) {K : Int32 → Prop} (h0 : ∀ v, K v → xK X (some (.int v)) g) : J Y_ix2 X 0 0 0 [some (.ref a), some (.int ch), some (.int 0)] [] g (some (zletter ch)) K := by
  refine J_eq (t' := (some (1 : Int32)).bind fun v => if v = 0 then none else (some (7 : Int32)).bind fun _ => (some (zletter ch)).bind some) rfl ?_
  refine J_aload_n rfl rfl (show Dc Y_ix2 0 (.aload_n 0) 1 1 from ⟨by decide +kernel, rfl⟩) ?_
  refine J_callVS (vo := fun v => some (.int v)) (so := fun _ => g) hS (show Dc Y_ix2 1 (.invokevirtual 492) 3 4 from ⟨by decide +kernel, rfl⟩) w_m_RJ0_492 w_in_Y_lat w_se_Y_lat w_cw_Y_lat (av := []) (c_lat hS g) rfl rfl (by decide) (Nat.le_of_ble_eq_true rfl) (by decide) (by decide) (fun v hv => ?_)
  refine J_if_eq (show Dc Y_ix2 4 (.ifCond .eq 19) 3 7 from ⟨by decide +kernel, rfl⟩) rfl (fun _ => J_none) (fun _ => ?_)
  refine J_aload_n rfl rfl (show Dc Y_ix2 7 (.aload_n 0) 1 8 from ⟨by decide +kernel, rfl⟩) ?_
  refine J_gfo hS.2 (fun U H h => h.2.2.1) w_f_RJ0_9 (show Dc Y_ix2 8 (.getfield 9) 3 11 from ⟨by decide +kernel, rfl⟩) ?_
  refine J_iload_n rfl rfl (show Dc Y_ix2 11 (.iload_n 1) 1 12 from ⟨by decide +kernel, rfl⟩) ?_
  refine J_iload_n rfl rfl (show Dc Y_ix2 12 (.iload_n 2) 1 13 from ⟨by decide +kernel, rfl⟩) ?_
  refine J_aload_n rfl rfl (show Dc Y_ix2 13 (.aload_n 0) 1 14 from ⟨by decide +kernel, rfl⟩) ?_
  refine J_callVS (vo := fun v => some (.int v)) (so := fun _ => g) hS (show Dc Y_ix2 14 (.invokevirtual 505) 3 17 from ⟨by decide +kernel, rfl⟩) w_m_RJ0_505 w_in_Y_len w_se_Y_len w_cw_Y_len (av := []) (c_len hS g) rfl rfl (by decide) (Nat.le_of_ble_eq_true rfl) (by decide) (by decide) (fun v hv => ?_)
  obtain rfl : 7 = v := Option.some.inj hv
  refine J_callSi (fun v => v) (fun _ => g) (show Dc Y_ix2 17 (.invokestatic 637) 3 20 from ⟨by decide +kernel, rfl⟩) w_m_RJ0_637 w_st_Y_ix4 w_cw_Y_ix4 (c_ix4 hS ch g) rfl rfl (by decide) (Nat.le_of_ble_eq_true rfl) (by decide) (by decide) (fun v => ?_)
  refine J_goto (show Dc Y_ix2 20 (.goto 16) 3 23 from ⟨by decide +kernel, rfl⟩) rfl ?_
  exact J_reti (show Dc Y_ix2 36 (.ireturn) 1 37 from ⟨by decide +kernel, rfl⟩) rfl (h0 _) (by decide) (by decide)
theorem c_ix2 {l : Launch} {D : ZD} {B0 : Nat} {a d : Nat} (hS : zSa D a d) (ch : Int32) (g : ZS) : ∀ r, some (zletter ch) = some r → zCt l D B0 yJ0_indexOf_7cf53 Y_ix2 [.ref a, .int ch, .int 0] g (some (.int r)) g :=
  zCt_ofD (lo := [some (.ref a), some (.int ch), some (.int 0)]) (vo := fun r => some (.int r)) (so := fun _ => g) (by decide +kernel) rfl (fun h => by cases h) rfl (Nat.le_of_ble_eq_true rfl) (fun X hX => j_ix2 (hX ▸ hS) ch g (fun v h => h))
theorem j_ix1 {X : ZX} {a d : Nat} (hS : zSa (xD X) a d) (ch : Int32) (g : ZS) {K : Int32 → Prop} (h0 : ∀ v, K v → xK X (some (.int v)) g) : J Y_ix1 X 0 0 0 [some (.ref a), some (.int ch)] [] g (some (zletter ch)) K := by
  refine J_eq (t' := (some (zletter ch)).bind some) rfl ?_
  refine J_aload_n rfl rfl (show Dc Y_ix1 0 (.aload_n 0) 1 1 from ⟨by decide +kernel, rfl⟩) ?_
  refine J_iload_n rfl rfl (show Dc Y_ix1 1 (.iload_n 1) 1 2 from ⟨by decide +kernel, rfl⟩) ?_
  refine J_iconst 0 rfl (show Dc Y_ix1 2 (.iconst 0) 1 3 from ⟨by decide +kernel, rfl⟩) ?_
  refine J_callVS (vo := fun v => some (.int v)) (so := fun _ => g) hS (show Dc Y_ix1 3 (.invokevirtual 633) 3 6 from ⟨by decide +kernel, rfl⟩) w_m_RJ0_633 w_in_Y_ix2 w_se_Y_ix2 w_cw_Y_ix2 (av := [.int ch, .int 0]) (c_ix2 hS ch g) rfl rfl (by decide) (Nat.le_of_ble_eq_true rfl) (by decide) (by decide) (fun v hv => ?_)
  exact J_reti (show Dc Y_ix1 6 (.ireturn) 1 7 from ⟨by decide +kernel, rfl⟩) rfl (h0 _) (by decide) (by decide)
theorem c_ix1 {l : Launch} {D : ZD} {B0 : Nat} {a d : Nat} (hS : zSa D a d) (ch : Int32) (g : ZS) : ∀ r, some (zletter ch) = some r → zCt l D B0 yJ0_indexOf_0f7a4 Y_ix1 [.ref a, .int ch] g (some (.int r)) g :=
  zCt_ofD (lo := [some (.ref a), some (.int ch)]) (vo := fun r => some (.int r)) (so := fun _ => g) (by decide +kernel) rfl (fun h => by cases h) rfl (Nat.le_of_ble_eq_true rfl) (fun X hX => j_ix1 (hX ▸ hS) ch g (fun v h => h))
/-- "nfltwhv".indexOf(sign) -/
theorem J_letters {β : Type} {Y : ZY} {X : ZX} {kc ks pc p1 p2 p3 : Nat} {lo : List (Option Value)} {st : List Value} {g : ZS} {t : Option β} {K : β → Prop} {ch : Int32} (h1 : lo[1]? = some (some (.int ch))) (d1 : Dc Y pc (.ldc 64) 2 p1) (d2 : Dc Y p1 (.iload_n 1) 1 p2) (d3 : Dc Y p2 (.invokevirtual 66) 3 p3) (ho : yo Y = RX5) (hd : 5 ≤ yd Y) (h8 : (st.map fun v => v.category).sum ≤ 8) (hk1 : kc ≤ yk Y) (hk2 : ks ≤ yt Y) (k : J Y X kc ks p3 lo (.int (zletter ch) :: st) g t K) : J Y X kc ks pc lo st g t K := by
  intro ok r hr hK ls H locs cells slots hl hR hlo hc hs
  obtain ⟨e1, e2⟩ := d1
  subst e2
  obtain ⟨a, d, hS⟩ := zSa_of ok.2.2.2.2.2.1.2.2.2.2.2.2.2.1
  have hvk : vk_R RX5 64 "nfltwhv" a (xs X) := vk_R.warm ok.2.2.2.2.2.1.2.2.2.2.2.2.2.2 hS.1
  refine va_ldcS ok.1 ok.2.1 (own := RX5) (by rw [← ho]; exact ok.2.2.2.1) hvk e1 ?_
  have hj : J Y X kc ks (pc + 2) lo (.ref a :: st) g ((some (zletter ch)).bind fun _ => t) K := by
    refine J_iload_n rfl h1 d2 ?_
    refine J_callVS (vo := fun v => some (.int v)) (so := fun _ => g) hS d3 (by rw [ho]; exact w_m_RX5_66) w_in_Y_ix1 w_se_Y_ix1 w_cw_Y_ix1 (av := [.int ch]) (c_ix1 hS ch g) rfl rfl hd h8 hk1 hk2 (fun v hv => ?_)
    obtain rfl : zletter ch = v := Option.some.inj hv
    exact k
  exact hj ok r hr hK ls H locs cells slots hl hR hlo hc hs
