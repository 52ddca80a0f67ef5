/-! ===== the judgement: code from a configuration is told by a term ===== -/
abbrev ZX : Type := Program × Launch × Env × Room × State × MethodId × Array Value × List Frame × Method × Code × (Option Value → ZS → Prop) × ZD × Nat × (State → Prop)
/-- code, locals, own name, answer, constructor, depth, cells, slots -/
abbrev ZY : Type := ByteArray × Nat × String × Option FieldType × Bool × Nat × Nat × Nat
abbrev xp (X : ZX) := X.1
abbrev xl (X : ZX) := X.2.1
abbrev xe (X : ZX) := X.2.2.1
abbrev xR (X : ZX) := X.2.2.2.1
abbrev xs (X : ZX) := X.2.2.2.2.1
abbrev xm (X : ZX) := X.2.2.2.2.2.1
abbrev xa (X : ZX) := X.2.2.2.2.2.2.1
abbrev xb (X : ZX) := X.2.2.2.2.2.2.2.1
abbrev xh (X : ZX) := X.2.2.2.2.2.2.2.2.1
abbrev xc (X : ZX) := X.2.2.2.2.2.2.2.2.2.1
abbrev xK (X : ZX) := X.2.2.2.2.2.2.2.2.2.2.1
abbrev xD (X : ZX) := X.2.2.2.2.2.2.2.2.2.2.2.1
abbrev xB (X : ZX) := X.2.2.2.2.2.2.2.2.2.2.2.2.1
abbrev xQ (X : ZX) := X.2.2.2.2.2.2.2.2.2.2.2.2.2
abbrev yc (Y : ZY) := Y.1
abbrev yn (Y : ZY) := Y.2.1
abbrev yo (Y : ZY) := Y.2.2.1
abbrev yr (Y : ZY) := Y.2.2.2.1
abbrev yi (Y : ZY) := Y.2.2.2.2.1
abbrev yd (Y : ZY) := Y.2.2.2.2.2.1
abbrev yk (Y : ZY) := Y.2.2.2.2.2.2.1
abbrev yt (Y : ZY) := Y.2.2.2.2.2.2.2
def zpairs : Nat → List (Option Value) → List (Nat × Value)
  | _, [] => []
  | i, none :: t => zpairs (i + 1) t
  | i, some v :: t => (i, v) :: zpairs (i + 1) t
theorem zpairs_mem {q : Nat × Value} : ∀ {l : List (Option Value)} {k : Nat}, q ∈ zpairs k l ↔ ∃ j, q.1 = k + j ∧ l[j]? = some (some q.2)
  | [], k => by simp [zpairs]
  | none :: t, k => by
    rw [zpairs, zpairs_mem (l := t) (k := k + 1)]
    constructor
    · rintro ⟨j, h1, h2⟩
      exact ⟨j + 1, by omega, by simpa using h2⟩
    · rintro ⟨j, h1, h2⟩
      cases j with
      | zero => simp at h2
      | succ j => exact ⟨j, by omega, by simpa using h2⟩
  | some v :: t, k => by
    rw [zpairs, List.mem_cons, zpairs_mem (l := t) (k := k + 1)]
    constructor
    · rintro (rfl | ⟨j, h1, h2⟩)
      · exact ⟨0, rfl, rfl⟩
      · exact ⟨j + 1, by omega, by simpa using h2⟩
    · rintro ⟨j, h1, h2⟩
      cases j with
      | zero => left; simp at h2; exact Prod.ext (by simpa using h1) h2.symm
      | succ j => right; exact ⟨j, by omega, by simpa using h2⟩
def zQ (D : ZD) (B0 : Nat) (KF : Option Value → ZS → Prop) : Array Value → State → Outcome → State → Prop := fun _ _ o t => ∃ (v : Option Value) (g : ZS), o = .returned v ∧ KF v g ∧ zR D B0 g t.heap
def zRm (Y : ZY) : Room := { frames := yd Y, cells := yk Y, slots := yt Y, locals := 64 * yd Y }
def zOk (Y : ZY) (X : ZX) : Prop :=
  (xp X).tables.exec = Jvm.exec ∧ (xc X).code = yc Y ∧ (xc X).maxLocals = yn Y ∧ (xs X).vm.findClass (yo Y) = some (xm X).cls ∧ (∀ w ∈ ztbl, w.before (xa X) (xs X) = true) ∧ zK (xD X) (xs X) ∧ (xh X).locks = false ∧ (xh X).sig.returnType = yr Y ∧
  (yi Y = true → (xh X).name = "<init>") ∧ yd Y ≤ (xR X).frames ∧ 64 * yd Y ≤ (xR X).locals ∧ yk Y ≤ (xR X).cells ∧ yt Y ≤ (xR X).slots ∧ xB X ≤ (xs X).heap.size ∧ ((zs0 (xD X)).heap.size ≤ xB X ∧ ∀ q, q < xB X → (xs X).heap[q]? = (zs0 (xD X)).heap[q]?) ∧ ∀ t, MQ (xb X) (zQ (xD X) (xB X) (xK X)) (xa X) (xs X) (yk Y) (yt Y) (fun a => xB X ≤ a) t → xQ X t
def zG (Y : ZY) (X : ZX) (kc ks pc : Nat) (lo : List (Option Value)) (st : List Value) (g : ZS) : Prop :=
  ∀ (ls : Array Slot) (H : Heap) (locs : List Loc) (cells slots : Nat), lv_has ls (yn Y) (zpairs 0 lo) → zR (xD X) (xB X) g H → (∀ q ∈ locs, xB X ≤ q.base) → cells ≤ kc → slots ≤ ks →
    W (xp X) (xl X) (xe X) (xR X) (xs X) (xm X) (xa X) (xb X) (xh X) (xc X) H locs cells slots (xQ X) (F0 (xm X) pc ls st)
def J {β : Type} (Y : ZY) (X : ZX) (kc ks pc : Nat) (lo : List (Option Value)) (st : List Value) (g : ZS) (t : Option β) (K : β → Prop) : Prop :=
  zOk Y X → ∀ r, t = some r → K r → zG Y X kc ks pc lo st g
def Dc (Y : ZY) (pc : Nat) (i : Instr) (n pc' : Nat) : Prop := decode (yc Y) pc = .ok (i, n) ∧ pc + n = pc'
section ZJ
variable {β : Type} {Y : ZY} {X : ZX} {kc ks pc pc' : Nat} {lo lo' : List (Option Value)} {st st' : List Value} {g : ZS} {t : Option β} {K : β → Prop}
abbrev zWt (Y : ZY) (X : ZX) (H : Heap) (locs : List Loc) (cells slots : Nat) (f : JFrame) : Prop := W (xp X) (xl X) (xe X) (xR X) (xs X) (xm X) (xa X) (xb X) (xh X) (xc X) H locs cells slots (xQ X) f
theorem J1 (h : zOk Y X → ∀ (ls : Array Slot) (H : Heap) (locs : List Loc) (cells slots : Nat), lv_has ls (yn Y) (zpairs 0 lo) → zWt Y X H locs cells slots (F0 (xm X) pc' ls st') → zWt Y X H locs cells slots (F0 (xm X) pc ls st)) (k : J Y X kc ks pc' lo st' g t K) : J Y X kc ks pc lo st g t K :=
  fun ok r hr hK ls H locs cells slots hl hR hlo hc hs => h ok ls H locs cells slots hl (k ok r hr hK ls H locs cells slots hl hR hlo hc hs)
theorem J2 (h : zOk Y X → ∀ (ls : Array Slot) (H : Heap) (locs : List Loc) (cells slots : Nat), lv_has ls (yn Y) (zpairs 0 lo) → (∀ ls' : Array Slot, lv_has ls' (yn Y) (zpairs 0 lo') → zWt Y X H locs cells slots (F0 (xm X) pc' ls' st')) → zWt Y X H locs cells slots (F0 (xm X) pc ls st)) (k : J Y X kc ks pc' lo' st' g t K) : J Y X kc ks pc lo st g t K :=
  fun ok r hr hK ls H locs cells slots hl hR hlo hc hs => h ok ls H locs cells slots hl (fun ls' hl' => k ok r hr hK ls' H locs cells slots hl' hR hlo hc hs)
theorem zld {ls : Array Slot} {n : Nat} (hl : lv_has ls n (zpairs 0 lo)) {i : Nat} {v : Value} (h : lo[i]? = some (some v)) : ls[i]? = some (.val v) := hl.2.2 (i, v) (zpairs_mem.mpr ⟨i, by simp, h⟩)
/-- a long does not lie just below -/
def zsafe (lo : List (Option Value)) (i : Nat) : Bool := match i with
  | 0 => true
  | j + 1 => match lo[j]? with
    | some (some w) => w.category != 2
    | _ => true
theorem zsafe_at {i j : Nat} {w : Value} (h : zsafe lo i = true) (hj : j + 1 = i) (hw : lo[j]? = some (some w)) : ¬ w.category = 2 := by
  subst hj
  simp only [zsafe, hw] at h
  simpa using h
theorem zst1 {ls : Array Slot} {n i : Nat} {v : Value} (h : lv_has ls n ((i, v) :: (zpairs 0 lo).filter (fun q => !(q.1 == i) && !(q.1 + 1 == i && q.2.category == 2)))) (hs : zsafe lo i = true) (he : lo.set i (some v) = lo') : lv_has ls n (zpairs 0 lo') := by
  subst he
  refine ⟨h.1, h.2.1, fun q hq => h.2.2 q ?_⟩
  obtain ⟨j, h1, h2⟩ := zpairs_mem.mp hq
  have h1' : q.1 = j := by simpa using h1
  by_cases hji : j = i
  · subst hji
    rw [List.getElem?_set_self' ] at h2
    cases hx : lo[j]? with
    | none => rw [hx] at h2; simp at h2
    | some x => rw [hx] at h2; simp at h2; exact List.mem_cons.mpr (Or.inl (Prod.ext h1' h2.symm))
  · rw [List.getElem?_set_ne (fun e => hji e.symm)] at h2
    refine List.mem_cons_of_mem _ (List.mem_filter.mpr ⟨zpairs_mem.mpr ⟨j, h1, h2⟩, ?_⟩)
    simp only [Bool.and_eq_true, Bool.not_eq_true', beq_eq_false_iff_ne, Bool.and_eq_false_iff]
    refine ⟨by rw [h1']; exact hji, ?_⟩
    by_cases hq1 : q.1 + 1 = i
    · right; exact zsafe_at hs (by rw [← h1']; exact hq1) h2
    · left; exact hq1
theorem zst2 {ls : Array Slot} {n i : Nat} {v : Value} (h : lv_has ls n ((i, v) :: (zpairs 0 lo).filter (fun q => !(q.1 == i) && (!(q.1 == i + 1) && !(q.1 + 1 == i && q.2.category == 2))))) (hs : zsafe lo i = true) (he : (lo.set i (some v)).set (i + 1) none = lo') : lv_has ls n (zpairs 0 lo') := by
  subst he
  refine ⟨h.1, h.2.1, fun q hq => h.2.2 q ?_⟩
  obtain ⟨j, h1, h2⟩ := zpairs_mem.mp hq
  have h1' : q.1 = j := by simpa using h1
  by_cases hj1 : j = i + 1
  · subst hj1
    rw [List.getElem?_set_self'] at h2
    cases hx : (lo.set i (some v))[i + 1]? with
    | none => rw [hx] at h2; simp at h2
    | some x => rw [hx] at h2; simp at h2
  · rw [List.getElem?_set_ne (fun e => hj1 e.symm)] at h2
    by_cases hji : j = i
    · subst hji
      rw [List.getElem?_set_self'] at h2
      cases hx : lo[j]? with
      | none => rw [hx] at h2; simp at h2
      | some x => rw [hx] at h2; simp at h2; exact List.mem_cons.mpr (Or.inl (Prod.ext h1' h2.symm))
    · rw [List.getElem?_set_ne (fun e => hji e.symm)] at h2
      refine List.mem_cons_of_mem _ (List.mem_filter.mpr ⟨zpairs_mem.mpr ⟨j, h1, h2⟩, ?_⟩)
      simp only [Bool.and_eq_true, Bool.not_eq_true', beq_eq_false_iff_ne, Bool.and_eq_false_iff]
      refine ⟨by rw [h1']; exact hji, by rw [h1']; exact hj1, ?_⟩
      by_cases hq1 : q.1 + 1 = i
      · right; exact zsafe_at hs (by rw [← h1']; exact hq1) h2
      · left; exact hq1

theorem J_iconst {n : Int} (v : Int32) (hv : Int32.ofInt n = v) (d : Dc Y pc (.iconst n) 1 pc') (k : J Y X kc ks pc' lo (.int v :: st) g t K) : J Y X kc ks pc lo (st) g t K :=
  J1 (fun ok ls H locs cells slots hl kk => by
    obtain ⟨d1, d2⟩ := d
    subst d2
    exact lv_iconst ok.1 ok.2.1 d1 hv kk) k
theorem J_bipush {n : Int} (v : Int32) (hv : (Int8.ofInt n).toInt32 = v) (d : Dc Y pc (.bipush n) 2 pc') (k : J Y X kc ks pc' lo (.int v :: st) g t K) : J Y X kc ks pc lo (st) g t K :=
  J1 (fun ok ls H locs cells slots hl kk => by
    obtain ⟨d1, d2⟩ := d
    subst d2
    exact lv_bipush ok.1 ok.2.1 d1 hv kk) k
theorem J_sipush {n : Int} (v : Int32) (hv : (Int16.ofInt n).toInt32 = v) (d : Dc Y pc (.sipush n) 3 pc') (k : J Y X kc ks pc' lo (.int v :: st) g t K) : J Y X kc ks pc lo (st) g t K :=
  J1 (fun ok ls H locs cells slots hl kk => by
    obtain ⟨d1, d2⟩ := d
    subst d2
    exact lv_sipush ok.1 ok.2.1 d1 hv kk) k
theorem J_lconst {n : Fin 2} (v : Int64) (hv : Int64.ofNat (n : Nat) = v) (d : Dc Y pc (.lconst n) 1 pc') (k : J Y X kc ks pc' lo (.long v :: st) g t K) : J Y X kc ks pc lo (st) g t K :=
  J1 (fun ok ls H locs cells slots hl kk => by
    obtain ⟨d1, d2⟩ := d
    subst d2
    exact lv_lconst ok.1 ok.2.1 d1 hv kk) k
theorem J_ldc {i : Nat} (v : Int32) (hw : Cond.constant (yo Y) i v ∈ ztbl) (d : Dc Y pc (.ldc i) 2 pc') (k : J Y X kc ks pc' lo (.int v :: st) g t K) : J Y X kc ks pc lo (st) g t K :=
  J1 (fun ok ls H locs cells slots hl kk => by
    obtain ⟨d1, d2⟩ := d
    subst d2
    exact lv_ldc ok.1 ok.2.1 ok.2.2.2.1 (ok.2.2.2.2.1 _ hw) d1 kk) k
theorem J_ldcw {i : Nat} (v : Int32) (hw : Cond.constant (yo Y) i v ∈ ztbl) (d : Dc Y pc (.ldc_w i) 3 pc') (k : J Y X kc ks pc' lo (.int v :: st) g t K) : J Y X kc ks pc lo (st) g t K :=
  J1 (fun ok ls H locs cells slots hl kk => by
    obtain ⟨d1, d2⟩ := d
    subst d2
    exact lv_ldcw ok.1 ok.2.1 ok.2.2.2.1 (ok.2.2.2.2.1 _ hw) d1 kk) k
theorem J_ldc2 {i : Nat} (v : Int64) (hw : Cond.constantLong (yo Y) i v ∈ ztbl) (d : Dc Y pc (.ldc2_w i) 3 pc') (k : J Y X kc ks pc' lo (.long v :: st) g t K) : J Y X kc ks pc lo (st) g t K :=
  J1 (fun ok ls H locs cells slots hl kk => by
    obtain ⟨d1, d2⟩ := d
    subst d2
    exact lv_ldc2 ok.1 ok.2.1 ok.2.2.2.1 (ok.2.2.2.2.1 _ hw) d1 kk) k
theorem J_iload_n {j : Fin 4} {i : Nat} {x : Int32} (hi : (j : Nat) = i) (h : lo[i]? = some (some (.int x))) (d : Dc Y pc (.iload_n j) 1 pc') (k : J Y X kc ks pc' lo (.int x :: st) g t K) : J Y X kc ks pc lo (st) g t K :=
  J1 (fun ok ls H locs cells slots hl kk => by
    obtain ⟨d1, d2⟩ := d
    subst d2
    exact lv_iload_n ok.1 ok.2.1 d1 hi (zld hl h) kk) k
theorem J_iload {i : Nat} {x : Int32} (h : lo[i]? = some (some (.int x))) (d : Dc Y pc (.iload i) 2 pc') (k : J Y X kc ks pc' lo (.int x :: st) g t K) : J Y X kc ks pc lo (st) g t K :=
  J1 (fun ok ls H locs cells slots hl kk => by
    obtain ⟨d1, d2⟩ := d
    subst d2
    exact lv_iload ok.1 ok.2.1 d1 (zld hl h) kk) k
theorem J_lload_n {j : Fin 4} {i : Nat} {x : Int64} (hi : (j : Nat) = i) (h : lo[i]? = some (some (.long x))) (d : Dc Y pc (.lload_n j) 1 pc') (k : J Y X kc ks pc' lo (.long x :: st) g t K) : J Y X kc ks pc lo (st) g t K :=
  J1 (fun ok ls H locs cells slots hl kk => by
    obtain ⟨d1, d2⟩ := d
    subst d2
    exact lv_lload_n ok.1 ok.2.1 d1 hi (zld hl h) kk) k
theorem J_lload {i : Nat} {x : Int64} (h : lo[i]? = some (some (.long x))) (d : Dc Y pc (.lload i) 2 pc') (k : J Y X kc ks pc' lo (.long x :: st) g t K) : J Y X kc ks pc lo (st) g t K :=
  J1 (fun ok ls H locs cells slots hl kk => by
    obtain ⟨d1, d2⟩ := d
    subst d2
    exact lv_lload ok.1 ok.2.1 d1 (zld hl h) kk) k
theorem J_aload_n {j : Fin 4} {i : Nat} {x : Nat} (hi : (j : Nat) = i) (h : lo[i]? = some (some (.ref x))) (d : Dc Y pc (.aload_n j) 1 pc') (k : J Y X kc ks pc' lo (.ref x :: st) g t K) : J Y X kc ks pc lo (st) g t K :=
  J1 (fun ok ls H locs cells slots hl kk => by
    obtain ⟨d1, d2⟩ := d
    subst d2
    exact lv_aload_n ok.1 ok.2.1 d1 hi (zld hl h) kk) k
theorem J_aload {i : Nat} {x : Nat} (h : lo[i]? = some (some (.ref x))) (d : Dc Y pc (.aload i) 2 pc') (k : J Y X kc ks pc' lo (.ref x :: st) g t K) : J Y X kc ks pc lo (st) g t K :=
  J1 (fun ok ls H locs cells slots hl kk => by
    obtain ⟨d1, d2⟩ := d
    subst d2
    exact lv_aload ok.1 ok.2.1 d1 (zld hl h) kk) k
theorem J_iadd {x y : Int32} (d : Dc Y pc (.iadd) 1 pc') (k : J Y X kc ks pc' lo (.int (x + y) :: st) g t K) : J Y X kc ks pc lo (.int y :: .int x :: st) g t K :=
  J1 (fun ok ls H locs cells slots hl kk => by
    obtain ⟨d1, d2⟩ := d
    subst d2
    exact lv_iadd ok.1 ok.2.1 d1 kk) k
theorem J_isub {x y : Int32} (d : Dc Y pc (.isub) 1 pc') (k : J Y X kc ks pc' lo (.int (x - y) :: st) g t K) : J Y X kc ks pc lo (.int y :: .int x :: st) g t K :=
  J1 (fun ok ls H locs cells slots hl kk => by
    obtain ⟨d1, d2⟩ := d
    subst d2
    exact lv_isub ok.1 ok.2.1 d1 kk) k
theorem J_imul {x y : Int32} (d : Dc Y pc (.imul) 1 pc') (k : J Y X kc ks pc' lo (.int (x * y) :: st) g t K) : J Y X kc ks pc lo (.int y :: .int x :: st) g t K :=
  J1 (fun ok ls H locs cells slots hl kk => by
    obtain ⟨d1, d2⟩ := d
    subst d2
    exact lv_imul ok.1 ok.2.1 d1 kk) k
theorem J_iand {x y : Int32} (d : Dc Y pc (.iand) 1 pc') (k : J Y X kc ks pc' lo (.int (x &&& y) :: st) g t K) : J Y X kc ks pc lo (.int y :: .int x :: st) g t K :=
  J1 (fun ok ls H locs cells slots hl kk => by
    obtain ⟨d1, d2⟩ := d
    subst d2
    exact lv_iand ok.1 ok.2.1 d1 kk) k
theorem J_ior {x y : Int32} (d : Dc Y pc (.ior) 1 pc') (k : J Y X kc ks pc' lo (.int (x ||| y) :: st) g t K) : J Y X kc ks pc lo (.int y :: .int x :: st) g t K :=
  J1 (fun ok ls H locs cells slots hl kk => by
    obtain ⟨d1, d2⟩ := d
    subst d2
    exact lv_ior ok.1 ok.2.1 d1 kk) k
theorem J_ixor {x y : Int32} (d : Dc Y pc (.ixor) 1 pc') (k : J Y X kc ks pc' lo (.int (x ^^^ y) :: st) g t K) : J Y X kc ks pc lo (.int y :: .int x :: st) g t K :=
  J1 (fun ok ls H locs cells slots hl kk => by
    obtain ⟨d1, d2⟩ := d
    subst d2
    exact lv_ixor ok.1 ok.2.1 d1 kk) k
theorem J_ishl {x y : Int32} (d : Dc Y pc (.ishl) 1 pc') (k : J Y X kc ks pc' lo (.int (x <<< (y &&& 31)) :: st) g t K) : J Y X kc ks pc lo (.int y :: .int x :: st) g t K :=
  J1 (fun ok ls H locs cells slots hl kk => by
    obtain ⟨d1, d2⟩ := d
    subst d2
    exact lv_ishl ok.1 ok.2.1 d1 kk) k
theorem J_ishr {x y : Int32} (d : Dc Y pc (.ishr) 1 pc') (k : J Y X kc ks pc' lo (.int (x >>> (y &&& 31)) :: st) g t K) : J Y X kc ks pc lo (.int y :: .int x :: st) g t K :=
  J1 (fun ok ls H locs cells slots hl kk => by
    obtain ⟨d1, d2⟩ := d
    subst d2
    exact lv_ishr ok.1 ok.2.1 d1 kk) k
theorem J_iushr {x y : Int32} (d : Dc Y pc (.iushr) 1 pc') (k : J Y X kc ks pc' lo (.int ((x.toUInt32 >>> (y.toUInt32 &&& Int32.toUInt32 31)).toInt32) :: st) g t K) : J Y X kc ks pc lo (.int y :: .int x :: st) g t K :=
  J1 (fun ok ls H locs cells slots hl kk => by
    obtain ⟨d1, d2⟩ := d
    subst d2
    exact lv_iushr ok.1 ok.2.1 d1 rfl kk) k
theorem J_ineg {x : Int32} (d : Dc Y pc (.ineg) 1 pc') (k : J Y X kc ks pc' lo (.int (-x) :: st) g t K) : J Y X kc ks pc lo (.int x :: st) g t K :=
  J1 (fun ok ls H locs cells slots hl kk => by
    obtain ⟨d1, d2⟩ := d
    subst d2
    exact lv_ineg ok.1 ok.2.1 d1 kk) k
theorem J_ladd {x y : Int64} (d : Dc Y pc (.ladd) 1 pc') (k : J Y X kc ks pc' lo (.long (x + y) :: st) g t K) : J Y X kc ks pc lo (.long y :: .long x :: st) g t K :=
  J1 (fun ok ls H locs cells slots hl kk => by
    obtain ⟨d1, d2⟩ := d
    subst d2
    exact lv_ladd ok.1 ok.2.1 d1 kk) k
theorem J_lsub {x y : Int64} (d : Dc Y pc (.lsub) 1 pc') (k : J Y X kc ks pc' lo (.long (x - y) :: st) g t K) : J Y X kc ks pc lo (.long y :: .long x :: st) g t K :=
  J1 (fun ok ls H locs cells slots hl kk => by
    obtain ⟨d1, d2⟩ := d
    subst d2
    exact lv_lsub ok.1 ok.2.1 d1 kk) k
theorem J_lmul {x y : Int64} (d : Dc Y pc (.lmul) 1 pc') (k : J Y X kc ks pc' lo (.long (x * y) :: st) g t K) : J Y X kc ks pc lo (.long y :: .long x :: st) g t K :=
  J1 (fun ok ls H locs cells slots hl kk => by
    obtain ⟨d1, d2⟩ := d
    subst d2
    exact lv_lmul ok.1 ok.2.1 d1 kk) k
theorem J_i2l {x : Int32} (d : Dc Y pc (.i2l) 1 pc') (k : J Y X kc ks pc' lo (.long x.toInt64 :: st) g t K) : J Y X kc ks pc lo (.int x :: st) g t K :=
  J1 (fun ok ls H locs cells slots hl kk => by
    obtain ⟨d1, d2⟩ := d
    subst d2
    exact lv_i2l ok.1 ok.2.1 d1 rfl kk) k
theorem J_i2b {x : Int32} (d : Dc Y pc (.i2b) 1 pc') (k : J Y X kc ks pc' lo (.int x.toInt8.toInt32 :: st) g t K) : J Y X kc ks pc lo (.int x :: st) g t K :=
  J1 (fun ok ls H locs cells slots hl kk => by
    obtain ⟨d1, d2⟩ := d
    subst d2
    exact lv_i2b ok.1 ok.2.1 d1 rfl kk) k
theorem J_i2s {x : Int32} (d : Dc Y pc (.i2s) 1 pc') (k : J Y X kc ks pc' lo (.int x.toInt16.toInt32 :: st) g t K) : J Y X kc ks pc lo (.int x :: st) g t K :=
  J1 (fun ok ls H locs cells slots hl kk => by
    obtain ⟨d1, d2⟩ := d
    subst d2
    exact lv_i2s ok.1 ok.2.1 d1 rfl kk) k
theorem J_i2c {x : Int32} (d : Dc Y pc (.i2c) 1 pc') (k : J Y X kc ks pc' lo (.int (x.toUInt32 % 65536).toInt32 :: st) g t K) : J Y X kc ks pc lo (.int x :: st) g t K :=
  J1 (fun ok ls H locs cells slots hl kk => by
    obtain ⟨d1, d2⟩ := d
    subst d2
    exact lv_i2c ok.1 ok.2.1 d1 rfl kk) k
theorem J_lcmp {x y : Int64} (d : Dc Y pc (.lcmp) 1 pc') (k : J Y X kc ks pc' lo (.int (lg_cmp x y) :: st) g t K) : J Y X kc ks pc lo (.long y :: .long x :: st) g t K :=
  J1 (fun ok ls H locs cells slots hl kk => by
    obtain ⟨d1, d2⟩ := d
    subst d2
    exact W.lcmp ok.1 ok.2.1 d1 kk) k
theorem J_dup {v : Value} (hv : v.category = 1) (d : Dc Y pc (.dup) 1 pc') (k : J Y X kc ks pc' lo (v :: v :: st) g t K) : J Y X kc ks pc lo (v :: st) g t K :=
  J1 (fun ok ls H locs cells slots hl kk => by
    obtain ⟨d1, d2⟩ := d
    subst d2
    exact lv_dup ok.1 ok.2.1 d1 hv kk) k
theorem J_pop {v : Value} (hv : v.category = 1) (d : Dc Y pc (.pop) 1 pc') (k : J Y X kc ks pc' lo (st) g t K) : J Y X kc ks pc lo (v :: st) g t K :=
  J1 (fun ok ls H locs cells slots hl kk => by
    obtain ⟨d1, d2⟩ := d
    subst d2
    exact lv_pop ok.1 ok.2.1 d1 hv kk) k
theorem J_dup_x1 {v u : Value} (hv : v.category = 1) (hu : u.category = 1) (d : Dc Y pc (.dup_x1) 1 pc') (k : J Y X kc ks pc' lo (v :: u :: v :: st) g t K) : J Y X kc ks pc lo (v :: u :: st) g t K :=
  J1 (fun ok ls H locs cells slots hl kk => by
    obtain ⟨d1, d2⟩ := d
    subst d2
    exact lv_dup_x1 ok.1 ok.2.1 d1 hv hu kk) k
theorem J_dup2 {v u : Value} (hv : v.category = 1) (hu : u.category = 1) (d : Dc Y pc (.dup2) 1 pc') (k : J Y X kc ks pc' lo (v :: u :: v :: u :: st) g t K) : J Y X kc ks pc lo (v :: u :: st) g t K :=
  J1 (fun ok ls H locs cells slots hl kk => by
    obtain ⟨d1, d2⟩ := d
    subst d2
    exact lv_dup2_11 ok.1 ok.2.1 d1 hv hu kk) k
theorem J_istore_n {j : Fin 4} {i : Nat} {x : Int32} (lo' : List (Option Value)) (d : Dc Y pc (.istore_n j) 1 pc') (hi : (j : Nat) = i) (hn : i < yn Y) (hz : zsafe lo i = true) (he : lo.set i (some (.int x)) = lo') (k : J Y X kc ks pc' lo' st g t K) : J Y X kc ks pc lo (.int x :: st) g t K :=
  J2 (lo' := lo') (fun ok ls H locs cells slots hl kk => by
    obtain ⟨d1, d2⟩ := d
    subst d2
    exact lv_istore_n ok.1 ok.2.1 d1 hi hl hn rfl (fun ls' h' => kk ls' (zst1 h' hz he))) k
theorem J_istore {i : Nat} {x : Int32} (lo' : List (Option Value)) (d : Dc Y pc (.istore i) 2 pc') (hn : i < yn Y) (hz : zsafe lo i = true) (he : lo.set i (some (.int x)) = lo') (k : J Y X kc ks pc' lo' st g t K) : J Y X kc ks pc lo (.int x :: st) g t K :=
  J2 (lo' := lo') (fun ok ls H locs cells slots hl kk => by
    obtain ⟨d1, d2⟩ := d
    subst d2
    exact lv_istore ok.1 ok.2.1 d1 hl hn rfl (fun ls' h' => kk ls' (zst1 h' hz he))) k
theorem J_astore_n {j : Fin 4} {i : Nat} {x : Nat} (lo' : List (Option Value)) (d : Dc Y pc (.astore_n j) 1 pc') (hi : (j : Nat) = i) (hn : i < yn Y) (hz : zsafe lo i = true) (he : lo.set i (some (.ref x)) = lo') (k : J Y X kc ks pc' lo' st g t K) : J Y X kc ks pc lo (.ref x :: st) g t K :=
  J2 (lo' := lo') (fun ok ls H locs cells slots hl kk => by
    obtain ⟨d1, d2⟩ := d
    subst d2
    exact lv_astore_n ok.1 ok.2.1 d1 hi hl hn rfl (fun ls' h' => kk ls' (zst1 h' hz he))) k
theorem J_astore {i : Nat} {x : Nat} (lo' : List (Option Value)) (d : Dc Y pc (.astore i) 2 pc') (hn : i < yn Y) (hz : zsafe lo i = true) (he : lo.set i (some (.ref x)) = lo') (k : J Y X kc ks pc' lo' st g t K) : J Y X kc ks pc lo (.ref x :: st) g t K :=
  J2 (lo' := lo') (fun ok ls H locs cells slots hl kk => by
    obtain ⟨d1, d2⟩ := d
    subst d2
    exact lv_astore ok.1 ok.2.1 d1 hl hn rfl (fun ls' h' => kk ls' (zst1 h' hz he))) k
theorem J_lstore_n {j : Fin 4} {i : Nat} {x : Int64} (lo' : List (Option Value)) (d : Dc Y pc (.lstore_n j) 1 pc') (hi : (j : Nat) = i) (hn : i + 1 < yn Y) (hz : zsafe lo i = true) (he : (lo.set i (some (.long x))).set (i + 1) none = lo') (k : J Y X kc ks pc' lo' st g t K) : J Y X kc ks pc lo (.long x :: st) g t K :=
  J2 (lo' := lo') (fun ok ls H locs cells slots hl kk => by
    obtain ⟨d1, d2⟩ := d
    subst d2
    exact lv_lstore_n ok.1 ok.2.1 d1 hi hl hn rfl (fun ls' h' => kk ls' (zst2 h' hz he))) k
theorem J_lstore {i : Nat} {x : Int64} (lo' : List (Option Value)) (d : Dc Y pc (.lstore i) 2 pc') (hn : i + 1 < yn Y) (hz : zsafe lo i = true) (he : (lo.set i (some (.long x))).set (i + 1) none = lo') (k : J Y X kc ks pc' lo' st g t K) : J Y X kc ks pc lo (.long x :: st) g t K :=
  J2 (lo' := lo') (fun ok ls H locs cells slots hl kk => by
    obtain ⟨d1, d2⟩ := d
    subst d2
    exact lv_lstore ok.1 ok.2.1 d1 hl hn rfl (fun ls' h' => kk ls' (zst2 h' hz he))) k
theorem J_iinc {i : Nat} {n : Int} {x : Int32} (v : Int32) (lo' : List (Option Value)) (d : Dc Y pc (.iinc i n) 3 pc') (h : lo[i]? = some (some (.int x))) (hv : Int32.ofInt n = v) (hn : i < yn Y) (hz : zsafe lo i = true) (he : lo.set i (some (.int (x + v))) = lo') (k : J Y X kc ks pc' lo' st g t K) : J Y X kc ks pc lo st g t K :=
  J2 (lo' := lo') (fun ok ls H locs cells slots hl kk => by
    obtain ⟨d1, d2⟩ := d
    subst d2
    subst hv
    obtain ⟨q, hq⟩ := List.getElem?_of_mem (zpairs_mem.mpr ⟨i, by simp, h⟩ : (i, Value.int x) ∈ zpairs 0 lo)
    exact lv_iinc ok.1 ok.2.1 d1 hl hq rfl hn rfl (fun ls' h' => kk ls' (zst1 h' hz he))) k
theorem J_idiv {x y : Int32} (d : Dc Y pc .idiv 1 pc') (k : J Y X kc ks pc' lo (.int (x / y) :: st) g t K) : J Y X kc ks pc lo (.int y :: .int x :: st) g (if y = 0 then none else t) K := by
  intro ok r hr hK ls H locs cells slots hl hR hlo hc hs
  obtain ⟨d1, d2⟩ := d
  subst d2
  by_cases hy : y = 0
  · rw [if_pos hy] at hr; cases hr
  · rw [if_neg hy] at hr
    exact lv_idiv ok.1 ok.2.1 d1 hy (k ok r hr hK ls H locs cells slots hl hR hlo hc hs)
theorem J_idivC {x y : Int32} (hy : ¬ y = 0) (d : Dc Y pc .idiv 1 pc') (k : J Y X kc ks pc' lo (.int (x / y) :: st) g t K) : J Y X kc ks pc lo (.int y :: .int x :: st) g t K :=
  J1 (fun ok ls H locs cells slots hl kk => by
    obtain ⟨d1, d2⟩ := d
    subst d2
    exact lv_idiv ok.1 ok.2.1 d1 hy kk) k
theorem J_irem {x y : Int32} (d : Dc Y pc .irem 1 pc') (k : J Y X kc ks pc' lo (.int (x - x / y * y) :: st) g t K) : J Y X kc ks pc lo (.int y :: .int x :: st) g (if y = 0 then none else t) K := by
  intro ok r hr hK ls H locs cells slots hl hR hlo hc hs
  obtain ⟨d1, d2⟩ := d
  subst d2
  by_cases hy : y = 0
  · rw [if_pos hy] at hr; cases hr
  · rw [if_neg hy] at hr
    exact lv_irem ok.1 ok.2.1 d1 hy (k ok r hr hK ls H locs cells slots hl hR hlo hc hs)
theorem J_iremC {x y : Int32} (hy : ¬ y = 0) (d : Dc Y pc .irem 1 pc') (k : J Y X kc ks pc' lo (.int (x - x / y * y) :: st) g t K) : J Y X kc ks pc lo (.int y :: .int x :: st) g t K :=
  J1 (fun ok ls H locs cells slots hl kk => by
    obtain ⟨d1, d2⟩ := d
    subst d2
    exact lv_irem ok.1 ok.2.1 d1 hy kk) k
theorem J_ldiv {x y : Int64} (d : Dc Y pc .ldiv 1 pc') (k : J Y X kc ks pc' lo (.long (x / y) :: st) g t K) : J Y X kc ks pc lo (.long y :: .long x :: st) g (if y = 0 then none else t) K := by
  intro ok r hr hK ls H locs cells slots hl hR hlo hc hs
  obtain ⟨d1, d2⟩ := d
  subst d2
  by_cases hy : y = 0
  · rw [if_pos hy] at hr; cases hr
  · rw [if_neg hy] at hr
    exact lv_ldiv ok.1 ok.2.1 d1 hy (k ok r hr hK ls H locs cells slots hl hR hlo hc hs)
theorem J_ldivC {x y : Int64} (hy : ¬ y = 0) (d : Dc Y pc .ldiv 1 pc') (k : J Y X kc ks pc' lo (.long (x / y) :: st) g t K) : J Y X kc ks pc lo (.long y :: .long x :: st) g t K :=
  J1 (fun ok ls H locs cells slots hl kk => by
    obtain ⟨d1, d2⟩ := d
    subst d2
    exact lv_ldiv ok.1 ok.2.1 d1 hy kk) k
theorem J_lrem {x y : Int64} (d : Dc Y pc .lrem 1 pc') (k : J Y X kc ks pc' lo (.long (x - x / y * y) :: st) g t K) : J Y X kc ks pc lo (.long y :: .long x :: st) g (if y = 0 then none else t) K := by
  intro ok r hr hK ls H locs cells slots hl hR hlo hc hs
  obtain ⟨d1, d2⟩ := d
  subst d2
  by_cases hy : y = 0
  · rw [if_pos hy] at hr; cases hr
  · rw [if_neg hy] at hr
    exact lv_lrem ok.1 ok.2.1 d1 hy (k ok r hr hK ls H locs cells slots hl hR hlo hc hs)
theorem J_lremC {x y : Int64} (hy : ¬ y = 0) (d : Dc Y pc .lrem 1 pc') (k : J Y X kc ks pc' lo (.long (x - x / y * y) :: st) g t K) : J Y X kc ks pc lo (.long y :: .long x :: st) g t K :=
  J1 (fun ok ls H locs cells slots hl kk => by
    obtain ⟨d1, d2⟩ := d
    subst d2
    exact lv_lrem ok.1 ok.2.1 d1 hy kk) k
theorem J_if_eq {x : Int32} {o : Int} {tg : Nat} {t1 t2 : Option β} (d : Dc Y pc (.ifCond .eq o) 3 pc') (ht : (pc : Int) + o = (tg : Int)) (k1 : x = 0 → J Y X kc ks tg lo st g t1 K) (k2 : ¬ (x = 0) → J Y X kc ks pc' lo st g t2 K) : J Y X kc ks pc lo (.int x :: st) g (if x = 0 then t1 else t2) K := by
  intro ok r hr hK ls H locs cells slots hl hR hlo hc hs
  obtain ⟨d1, d2⟩ := d
  subst d2
  refine lv_if_eq ok.1 ok.2.1 d1 ht (fun h => ?_) (fun h => ?_)
  · rw [if_pos h] at hr
    exact k1 h ok r hr hK ls H locs cells slots hl hR hlo hc hs
  · rw [if_neg h] at hr
    exact k2 h ok r hr hK ls H locs cells slots hl hR hlo hc hs
theorem J_icmp_eq {x y : Int32} {o : Int} {tg : Nat} {t1 t2 : Option β} (d : Dc Y pc (.if_icmp .eq o) 3 pc') (ht : (pc : Int) + o = (tg : Int)) (k1 : x = y → J Y X kc ks tg lo st g t1 K) (k2 : ¬ (x = y) → J Y X kc ks pc' lo st g t2 K) : J Y X kc ks pc lo (.int y :: .int x :: st) g (if x = y then t1 else t2) K := by
  intro ok r hr hK ls H locs cells slots hl hR hlo hc hs
  obtain ⟨d1, d2⟩ := d
  subst d2
  refine lv_icmp_eq ok.1 ok.2.1 d1 ht (fun h => ?_) (fun h => ?_)
  · rw [if_pos h] at hr
    exact k1 h ok r hr hK ls H locs cells slots hl hR hlo hc hs
  · rw [if_neg h] at hr
    exact k2 h ok r hr hK ls H locs cells slots hl hR hlo hc hs
theorem J_if_ne {x : Int32} {o : Int} {tg : Nat} {t1 t2 : Option β} (d : Dc Y pc (.ifCond .ne o) 3 pc') (ht : (pc : Int) + o = (tg : Int)) (k1 : ¬ x = 0 → J Y X kc ks tg lo st g t1 K) (k2 : x = 0 → J Y X kc ks pc' lo st g t2 K) : J Y X kc ks pc lo (.int x :: st) g (if x = 0 then t2 else t1) K := by
  intro ok r hr hK ls H locs cells slots hl hR hlo hc hs
  obtain ⟨d1, d2⟩ := d
  subst d2
  refine lv_if_ne ok.1 ok.2.1 d1 ht (fun h => ?_) (fun h => ?_)
  · rw [if_neg h] at hr
    exact k1 h ok r hr hK ls H locs cells slots hl hR hlo hc hs
  · rw [if_pos h] at hr
    exact k2 h ok r hr hK ls H locs cells slots hl hR hlo hc hs
theorem J_icmp_ne {x y : Int32} {o : Int} {tg : Nat} {t1 t2 : Option β} (d : Dc Y pc (.if_icmp .ne o) 3 pc') (ht : (pc : Int) + o = (tg : Int)) (k1 : ¬ x = y → J Y X kc ks tg lo st g t1 K) (k2 : x = y → J Y X kc ks pc' lo st g t2 K) : J Y X kc ks pc lo (.int y :: .int x :: st) g (if x = y then t2 else t1) K := by
  intro ok r hr hK ls H locs cells slots hl hR hlo hc hs
  obtain ⟨d1, d2⟩ := d
  subst d2
  refine lv_icmp_ne ok.1 ok.2.1 d1 ht (fun h => ?_) (fun h => ?_)
  · rw [if_neg h] at hr
    exact k1 h ok r hr hK ls H locs cells slots hl hR hlo hc hs
  · rw [if_pos h] at hr
    exact k2 h ok r hr hK ls H locs cells slots hl hR hlo hc hs
theorem J_if_lt {x : Int32} {o : Int} {tg : Nat} {t1 t2 : Option β} (d : Dc Y pc (.ifCond .lt o) 3 pc') (ht : (pc : Int) + o = (tg : Int)) (k1 : x < 0 → J Y X kc ks tg lo st g t1 K) (k2 : ¬ (x < 0) → J Y X kc ks pc' lo st g t2 K) : J Y X kc ks pc lo (.int x :: st) g (if x < 0 then t1 else t2) K := by
  intro ok r hr hK ls H locs cells slots hl hR hlo hc hs
  obtain ⟨d1, d2⟩ := d
  subst d2
  refine lv_if_lt ok.1 ok.2.1 d1 ht (fun h => ?_) (fun h => ?_)
  · rw [if_pos h] at hr
    exact k1 h ok r hr hK ls H locs cells slots hl hR hlo hc hs
  · rw [if_neg h] at hr
    exact k2 h ok r hr hK ls H locs cells slots hl hR hlo hc hs
theorem J_icmp_lt {x y : Int32} {o : Int} {tg : Nat} {t1 t2 : Option β} (d : Dc Y pc (.if_icmp .lt o) 3 pc') (ht : (pc : Int) + o = (tg : Int)) (k1 : x < y → J Y X kc ks tg lo st g t1 K) (k2 : ¬ (x < y) → J Y X kc ks pc' lo st g t2 K) : J Y X kc ks pc lo (.int y :: .int x :: st) g (if x < y then t1 else t2) K := by
  intro ok r hr hK ls H locs cells slots hl hR hlo hc hs
  obtain ⟨d1, d2⟩ := d
  subst d2
  refine lv_icmp_lt ok.1 ok.2.1 d1 ht (fun h => ?_) (fun h => ?_)
  · rw [if_pos h] at hr
    exact k1 h ok r hr hK ls H locs cells slots hl hR hlo hc hs
  · rw [if_neg h] at hr
    exact k2 h ok r hr hK ls H locs cells slots hl hR hlo hc hs
theorem J_if_ge {x : Int32} {o : Int} {tg : Nat} {t1 t2 : Option β} (d : Dc Y pc (.ifCond .ge o) 3 pc') (ht : (pc : Int) + o = (tg : Int)) (k1 : 0 ≤ x → J Y X kc ks tg lo st g t1 K) (k2 : ¬ (0 ≤ x) → J Y X kc ks pc' lo st g t2 K) : J Y X kc ks pc lo (.int x :: st) g (if 0 ≤ x then t1 else t2) K := by
  intro ok r hr hK ls H locs cells slots hl hR hlo hc hs
  obtain ⟨d1, d2⟩ := d
  subst d2
  refine lv_if_ge ok.1 ok.2.1 d1 ht (fun h => ?_) (fun h => ?_)
  · rw [if_pos h] at hr
    exact k1 h ok r hr hK ls H locs cells slots hl hR hlo hc hs
  · rw [if_neg h] at hr
    exact k2 h ok r hr hK ls H locs cells slots hl hR hlo hc hs
theorem J_icmp_ge {x y : Int32} {o : Int} {tg : Nat} {t1 t2 : Option β} (d : Dc Y pc (.if_icmp .ge o) 3 pc') (ht : (pc : Int) + o = (tg : Int)) (k1 : y ≤ x → J Y X kc ks tg lo st g t1 K) (k2 : ¬ (y ≤ x) → J Y X kc ks pc' lo st g t2 K) : J Y X kc ks pc lo (.int y :: .int x :: st) g (if y ≤ x then t1 else t2) K := by
  intro ok r hr hK ls H locs cells slots hl hR hlo hc hs
  obtain ⟨d1, d2⟩ := d
  subst d2
  refine lv_icmp_ge ok.1 ok.2.1 d1 ht (fun h => ?_) (fun h => ?_)
  · rw [if_pos h] at hr
    exact k1 h ok r hr hK ls H locs cells slots hl hR hlo hc hs
  · rw [if_neg h] at hr
    exact k2 h ok r hr hK ls H locs cells slots hl hR hlo hc hs
theorem J_if_gt {x : Int32} {o : Int} {tg : Nat} {t1 t2 : Option β} (d : Dc Y pc (.ifCond .gt o) 3 pc') (ht : (pc : Int) + o = (tg : Int)) (k1 : 0 < x → J Y X kc ks tg lo st g t1 K) (k2 : ¬ (0 < x) → J Y X kc ks pc' lo st g t2 K) : J Y X kc ks pc lo (.int x :: st) g (if 0 < x then t1 else t2) K := by
  intro ok r hr hK ls H locs cells slots hl hR hlo hc hs
  obtain ⟨d1, d2⟩ := d
  subst d2
  refine lv_if_gt ok.1 ok.2.1 d1 ht (fun h => ?_) (fun h => ?_)
  · rw [if_pos h] at hr
    exact k1 h ok r hr hK ls H locs cells slots hl hR hlo hc hs
  · rw [if_neg h] at hr
    exact k2 h ok r hr hK ls H locs cells slots hl hR hlo hc hs
theorem J_icmp_gt {x y : Int32} {o : Int} {tg : Nat} {t1 t2 : Option β} (d : Dc Y pc (.if_icmp .gt o) 3 pc') (ht : (pc : Int) + o = (tg : Int)) (k1 : y < x → J Y X kc ks tg lo st g t1 K) (k2 : ¬ (y < x) → J Y X kc ks pc' lo st g t2 K) : J Y X kc ks pc lo (.int y :: .int x :: st) g (if y < x then t1 else t2) K := by
  intro ok r hr hK ls H locs cells slots hl hR hlo hc hs
  obtain ⟨d1, d2⟩ := d
  subst d2
  refine lv_icmp_gt ok.1 ok.2.1 d1 ht (fun h => ?_) (fun h => ?_)
  · rw [if_pos h] at hr
    exact k1 h ok r hr hK ls H locs cells slots hl hR hlo hc hs
  · rw [if_neg h] at hr
    exact k2 h ok r hr hK ls H locs cells slots hl hR hlo hc hs
theorem J_if_le {x : Int32} {o : Int} {tg : Nat} {t1 t2 : Option β} (d : Dc Y pc (.ifCond .le o) 3 pc') (ht : (pc : Int) + o = (tg : Int)) (k1 : x ≤ 0 → J Y X kc ks tg lo st g t1 K) (k2 : ¬ (x ≤ 0) → J Y X kc ks pc' lo st g t2 K) : J Y X kc ks pc lo (.int x :: st) g (if x ≤ 0 then t1 else t2) K := by
  intro ok r hr hK ls H locs cells slots hl hR hlo hc hs
  obtain ⟨d1, d2⟩ := d
  subst d2
  refine lv_if_le ok.1 ok.2.1 d1 ht (fun h => ?_) (fun h => ?_)
  · rw [if_pos h] at hr
    exact k1 h ok r hr hK ls H locs cells slots hl hR hlo hc hs
  · rw [if_neg h] at hr
    exact k2 h ok r hr hK ls H locs cells slots hl hR hlo hc hs
theorem J_icmp_le {x y : Int32} {o : Int} {tg : Nat} {t1 t2 : Option β} (d : Dc Y pc (.if_icmp .le o) 3 pc') (ht : (pc : Int) + o = (tg : Int)) (k1 : x ≤ y → J Y X kc ks tg lo st g t1 K) (k2 : ¬ (x ≤ y) → J Y X kc ks pc' lo st g t2 K) : J Y X kc ks pc lo (.int y :: .int x :: st) g (if x ≤ y then t1 else t2) K := by
  intro ok r hr hK ls H locs cells slots hl hR hlo hc hs
  obtain ⟨d1, d2⟩ := d
  subst d2
  refine lv_icmp_le ok.1 ok.2.1 d1 ht (fun h => ?_) (fun h => ?_)
  · rw [if_pos h] at hr
    exact k1 h ok r hr hK ls H locs cells slots hl hR hlo hc hs
  · rw [if_neg h] at hr
    exact k2 h ok r hr hK ls H locs cells slots hl hR hlo hc hs
theorem J_goto {o : Int} {n tg : Nat} (d : Dc Y pc (.goto o) 3 n) (ht : (pc : Int) + o = (tg : Int)) (k : J Y X kc ks tg lo st g t K) : J Y X kc ks pc lo st g t K :=
  J1 (fun ok ls H locs cells slots hl kk => lv_goto ok.1 ok.2.1 d.1 ht kk) k
theorem W.imp {p : Program} {l : Launch} {e : Env} {R : Room} {s : State} {m : MethodId} {args : Array Value} {below : List Frame} {meth : Method} {c : Code} {H : Heap} {locs : List Loc} {cells slots : Nat} {Q Q' : State → Prop} {f : JFrame} (h : ∀ t, Q t → Q' t) (k : W p l e R s m args below meth c H locs cells slots Q f) : W p l e R s m args below meth c H locs cells slots Q' f := fun T hT X => by
  obtain ⟨t, a, b⟩ := k T hT X
  exact ⟨t, a, h t b⟩
/-! returns -/
theorem J_ret0 {b : β} (d : Dc Y pc .return_ 1 pc') (hr : yr Y = none) (hK : K b → xK X none g) (h1 : kc ≤ yk Y) (h2 : ks ≤ yt Y) : J Y X kc ks pc lo [] g (some b) K := by
  intro ok r hr1 hK1 ls H locs cells slots hl hR hlo hc hs
  cases hr1
  refine W.widen (k := yk Y) (n := yt Y) (Nat.le_trans hc h1) (Nat.le_trans hs h2) ?_
  exact W.imp ok.2.2.2.2.2.2.2.2.2.2.2.2.2.2.2 <| W.vret ok.1 ok.2.1 (by rw [ok.2.2.2.2.2.2.2.1]; exact hr) (fun t ht hW => ⟨none, g, rfl, hK hK1, by rw [ht]; exact hR⟩) hlo d.1 ok.2.2.2.2.2.2.1
theorem J_reti {b : β} {v : Int32} (d : Dc Y pc .ireturn 1 pc') (hr : yr Y = some .int) (hK : K b → xK X (some (.int v)) g) (h1 : kc ≤ yk Y) (h2 : ks ≤ yt Y) : J Y X kc ks pc lo [.int v] g (some b) K := by
  intro ok r hr1 hK1 ls H locs cells slots hl hR hlo hc hs
  cases hr1
  refine W.widen (k := yk Y) (n := yt Y) (Nat.le_trans hc h1) (Nat.le_trans hs h2) ?_
  exact W.imp ok.2.2.2.2.2.2.2.2.2.2.2.2.2.2.2 <| W.iret ok.1 ok.2.1 (by rw [ok.2.2.2.2.2.2.2.1]; exact hr) (fun t ht hW => ⟨some (.int v), g, rfl, hK hK1, by rw [ht]; exact hR⟩) hlo d.1 ok.2.2.2.2.2.2.1
theorem J_retl {b : β} {v : Int64} (d : Dc Y pc .lreturn 1 pc') (hr : yr Y = some .long) (hK : K b → xK X (some (.long v)) g) (h1 : kc ≤ yk Y) (h2 : ks ≤ yt Y) : J Y X kc ks pc lo [.long v] g (some b) K := by
  intro ok r hr1 hK1 ls H locs cells slots hl hR hlo hc hs
  cases hr1
  refine W.widen (k := yk Y) (n := yt Y) (Nat.le_trans hc h1) (Nat.le_trans hs h2) ?_
  exact W.imp ok.2.2.2.2.2.2.2.2.2.2.2.2.2.2.2 <| W.lret ok.1 ok.2.1 (by rw [ok.2.2.2.2.2.2.2.1]; exact hr) (fun t ht hW => ⟨some (.long v), g, rfl, hK hK1, by rw [ht]; exact hR⟩) hlo d.1 ok.2.2.2.2.2.2.1
/-- a narrow answer: boolean or char -/
theorem J_retz {b : β} {v : Int32} {ty : FieldType} (hn : narrow ty (.int v) = .int v) (d : Dc Y pc .ireturn 1 pc') (hr : yr Y = some ty) (hK : K b → xK X (some (.int v)) g) (h1 : kc ≤ yk Y) (h2 : ks ≤ yt Y) : J Y X kc ks pc lo [.int v] g (some b) K := by
  intro ok r hr1 hK1 ls H locs cells slots hl hR hlo hc hs
  cases hr1
  refine W.widen (k := yk Y) (n := yt Y) (Nat.le_trans hc h1) (Nat.le_trans hs h2) ?_
  exact W.imp ok.2.2.2.2.2.2.2.2.2.2.2.2.2.2.2 <| W.zret ok.1 ok.2.1 (by rw [ok.2.2.2.2.2.2.2.1]; exact hr) hn (fun t ht hW => ⟨some (.int v), g, rfl, hK hK1, by rw [ht]; exact hR⟩) hlo d.1 ok.2.2.2.2.2.2.1
theorem J_retZ {b : β} {v : Int32} {ty : FieldType} (d : Dc Y pc .ireturn 1 pc') (hr : yr Y = some ty) (hK : K b → xK X (some (.int v)) g) (h1 : kc ≤ yk Y) (h2 : ks ≤ yt Y) : J Y X kc ks pc lo [.int v] g (if vp_nar ty v = v then some b else none) K := by
  intro ok r hr1 hK1
  by_cases h : vp_nar ty v = v
  · rw [if_pos h] at hr1
    refine J_retz (Y := Y) (X := X) (K := K) (b := b) ?_ d hr hK h1 h2 ok r hr1 hK1
    cases ty <;> first | rfl | (simp only [vp_nar, narrow] at h ⊢; rw [h])
  · rw [if_neg h] at hr1; cases hr1
/-! weakening, leaves of loops, joins -/
theorem J_mono {kc2 ks2 : Nat} (h1 : kc ≤ kc2) (h2 : ks ≤ ks2) (k : J Y X kc2 ks2 pc lo st g t K) : J Y X kc ks pc lo st g t K :=
  fun ok r hr hK ls H locs cells slots hl hR hlo hc hs => k ok r hr hK ls H locs cells slots hl hR hlo (Nat.le_trans hc h1) (Nat.le_trans hs h2)
theorem J_none : J Y X kc ks pc lo st g (none : Option β) K := fun _ _ hr => by cases hr
theorem J_eq {t' : Option β} (h : t = t') (k : J Y X kc ks pc lo st g t' K) : J Y X kc ks pc lo st g t K := h ▸ k
theorem J_map {γ : Type} {f : β → γ} {K2 : γ → Prop} (h : ∀ b, K2 (f b) → K b) (k : J Y X kc ks pc lo st g t K) : J Y X kc ks pc lo st g (t.map f) K2 := by
  intro ok r hr hK
  obtain ⟨b, hb, rfl⟩ := Option.map_eq_some_iff.mp hr
  exact k ok b hb (h b hK)
end ZJ
