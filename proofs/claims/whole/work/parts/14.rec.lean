theorem w_f_RX12_211 : zFd RX12 211 12 20 := ⟨_, rfl, by decide, zwt5 192 (by decide +kernel) gd_fieldLink, rfl⟩
theorem w_m_RX12_189 : Cond.methodLink RX12 189 yX12_sum ∈ ztbl := zwt6 158 (by decide +kernel) gd_methodLink
theorem w_m_RX12_192 : Cond.methodLink RX12 192 yX12_product ∈ ztbl := zwt6 162 (by decide +kernel) gd_methodLink
theorem w_m_RX12_195 : Cond.methodLink RX12 195 yX12_thing ∈ ztbl := zwt6 166 (by decide +kernel) gd_methodLink
theorem w_m_RX12_198 : Cond.methodLink RX12 198 yX12_held ∈ ztbl := zwt6 154 (by decide +kernel) gd_methodLink
theorem w_m_RX12_201 : Cond.methodLink RX12 201 yX12_need ∈ ztbl := zwt6 170 (by decide +kernel) gd_methodLink
theorem w_m_RX12_205 : Cond.methodLink RX12 205 yX12_number ∈ ztbl := zwt6 174 (by decide +kernel) gd_methodLink
theorem w_m_RX12_208 : Cond.methodLink RX12 208 yX12_letterOf ∈ ztbl := zwt6 178 (by decide +kernel) gd_methodLink
theorem w_m_RX12_354 : Cond.methodLink RX12 354 yX12_goRing ∈ ztbl := zwt7 194 (by decide +kernel) gd_methodLink
theorem w_m_RX12_363 : Cond.methodLink RX12 363 yX12_common ∈ ztbl := zwt7 218 (by decide +kernel) gd_methodLink
abbrev Y_X12_held (d : Nat) : ZY := (cX12_held, 3, RX12, some .int, false, d, 0, 0)
theorem w_in_X12_held : Cond.instanceMethod yX12_held ∈ ztbl := zwt6 156 (by decide +kernel) gd_instanceMethod
theorem w_se_X12_held : Cond.selects RX12 yX12_held yX12_held ∈ ztbl := zwp4 (y := yX12_held) (n := 48) 6 (by decide +kernel)
theorem w_cw_X12_held (d : Nat) : zCw yX12_held (Y_X12_held d) 1 := ⟨zwt1 12 (by decide +kernel) gd_initialized, (show Cond.code yX12_held cX12_held 3 (some .int) ∈ ztbl from zwt6 157 (by decide +kernel) gd_code), (show yX12_held.cls ≠ "java/lang/invoke/MethodHandle" ∧ yX12_held.cls ≠ "java/lang/invoke/VarHandle" ∧ (parseMethodDescriptor yX12_held.desc).map (fun d => d.parameters.length) = some 1 by decide +kernel), (show 3 ≤ 45 by decide)⟩
abbrev Y_X12_sum (d : Nat) : ZY := (cX12_sum, 5, RX12, some .int, false, d, 0, 0)
theorem w_in_X12_sum : Cond.instanceMethod yX12_sum ∈ ztbl := zwt6 160 (by decide +kernel) gd_instanceMethod
theorem w_se_X12_sum : Cond.selects RX12 yX12_sum yX12_sum ∈ ztbl := zwp4 (y := yX12_sum) (n := 48) 7 (by decide +kernel)
theorem w_cw_X12_sum (d : Nat) : zCw yX12_sum (Y_X12_sum d) 1 := ⟨zwt1 12 (by decide +kernel) gd_initialized, (show Cond.code yX12_sum cX12_sum 5 (some .int) ∈ ztbl from zwt6 161 (by decide +kernel) gd_code), (show yX12_sum.cls ≠ "java/lang/invoke/MethodHandle" ∧ yX12_sum.cls ≠ "java/lang/invoke/VarHandle" ∧ (parseMethodDescriptor yX12_sum.desc).map (fun d => d.parameters.length) = some 1 by decide +kernel), (show 5 ≤ 45 by decide)⟩
abbrev Y_X12_product (d : Nat) : ZY := (cX12_product, 5, RX12, some .int, false, d, 0, 0)
theorem w_in_X12_product : Cond.instanceMethod yX12_product ∈ ztbl := zwt6 164 (by decide +kernel) gd_instanceMethod
theorem w_se_X12_product : Cond.selects RX12 yX12_product yX12_product ∈ ztbl := zwp4 (y := yX12_product) (n := 48) 8 (by decide +kernel)
theorem w_cw_X12_product (d : Nat) : zCw yX12_product (Y_X12_product d) 1 := ⟨zwt1 12 (by decide +kernel) gd_initialized, (show Cond.code yX12_product cX12_product 5 (some .int) ∈ ztbl from zwt6 165 (by decide +kernel) gd_code), (show yX12_product.cls ≠ "java/lang/invoke/MethodHandle" ∧ yX12_product.cls ≠ "java/lang/invoke/VarHandle" ∧ (parseMethodDescriptor yX12_product.desc).map (fun d => d.parameters.length) = some 1 by decide +kernel), (show 5 ≤ 45 by decide)⟩
abbrev Y_X12_thing (d : Nat) : ZY := (cX12_thing, 4, RX12, some .int, false, d, 0, 0)
theorem w_in_X12_thing : Cond.instanceMethod yX12_thing ∈ ztbl := zwt6 168 (by decide +kernel) gd_instanceMethod
theorem w_se_X12_thing : Cond.selects RX12 yX12_thing yX12_thing ∈ ztbl := zwp4 (y := yX12_thing) (n := 48) 9 (by decide +kernel)
theorem w_cw_X12_thing (d : Nat) : zCw yX12_thing (Y_X12_thing d) 1 := ⟨zwt1 12 (by decide +kernel) gd_initialized, (show Cond.code yX12_thing cX12_thing 4 (some .int) ∈ ztbl from zwt6 169 (by decide +kernel) gd_code), (show yX12_thing.cls ≠ "java/lang/invoke/MethodHandle" ∧ yX12_thing.cls ≠ "java/lang/invoke/VarHandle" ∧ (parseMethodDescriptor yX12_thing.desc).map (fun d => d.parameters.length) = some 1 by decide +kernel), (show 4 ≤ 45 by decide)⟩
abbrev Y_X12_goRing (d : Nat) : ZY := (cX12_goRing, 5, RX12, some .boolean, false, d, 0, 0)
theorem w_in_X12_goRing : Cond.instanceMethod yX12_goRing ∈ ztbl := zwt7 196 (by decide +kernel) gd_instanceMethod
theorem w_se_X12_goRing : Cond.selects RX12 yX12_goRing yX12_goRing ∈ ztbl := zwp6 (y := yX12_goRing) (n := 48) 6 (by decide +kernel)
theorem w_cw_X12_goRing (d : Nat) : zCw yX12_goRing (Y_X12_goRing d) 3 := ⟨zwt1 12 (by decide +kernel) gd_initialized, (show Cond.code yX12_goRing cX12_goRing 5 (some .boolean) ∈ ztbl from zwt7 197 (by decide +kernel) gd_code), (show yX12_goRing.cls ≠ "java/lang/invoke/MethodHandle" ∧ yX12_goRing.cls ≠ "java/lang/invoke/VarHandle" ∧ (parseMethodDescriptor yX12_goRing.desc).map (fun d => d.parameters.length) = some 3 by decide +kernel), (show 5 ≤ 45 by decide)⟩
abbrev Y_X12_common (d : Nat) : ZY := (cX12_common, 4, RX12, some .long, false, d, 0, 0)
theorem w_st_X12_common : Cond.static yX12_common ∈ ztbl := zwt7 219 (by decide +kernel) gd_static
theorem w_cw_X12_common (d : Nat) : zCw yX12_common (Y_X12_common d) 2 := ⟨zwt1 12 (by decide +kernel) gd_initialized, (show Cond.code yX12_common cX12_common 4 (some .long) ∈ ztbl from zwt7 220 (by decide +kernel) gd_code), (show yX12_common.cls ≠ "java/lang/invoke/MethodHandle" ∧ yX12_common.cls ≠ "java/lang/invoke/VarHandle" ∧ (parseMethodDescriptor yX12_common.desc).map (fun d => d.parameters.length) = some 2 by decide +kernel), (show 4 ≤ 45 by decide)⟩
def f_X12_held_29 (F : Nat → Nat → Int32 → ZS → Option (Int32 × ZS)) (N : Nat)  (s0 : Int32) (g : ZS) : Option (Int32 × ZS) :=
  some (s0, g)

def f_X12_held_53 (F : Nat → Nat → Int32 → ZS → Option (Int32 × ZS)) (N : Nat)  (s0 : Int32) (g : ZS) : Option (Int32 × ZS) :=
  some (s0, g)

def f_X12_held_77 (F : Nat → Nat → Int32 → ZS → Option (Int32 × ZS)) (N : Nat)  (s0 : Int32) (g : ZS) : Option (Int32 × ZS) :=
  some (s0, g)

def f_X12_held (F : Nat → Nat → Int32 → ZS → Option (Int32 × ZS)) (N : Nat) (x0 : Nat) (x1 : Int32)  (g : ZS) : Option (Int32 × ZS) :=
  zvs g x0 12 <| (F 1 x0 x1 g).bind fun r1 =>
  zvs r1.2 x0 12 <| (f_X12_passes x0 (60 : Int32) r1.2).bind fun r2 =>
  if r2.1 = 0 then
    zvs r2.2 x0 12 <| (f_X12_passes x0 (62 : Int32) r2.2).bind fun r3 =>
    if r3.1 = 0 then
      zvs r3.2 x0 12 <| (f_X12_passes x0 (61 : Int32) r3.2).bind fun r4 =>
      if r4.1 = 0 then
        some (r1.1, r4.2)
      else
        zvs r4.2 x0 12 <| (F 1 x0 x1 r4.2).bind fun r5 =>
        if r1.1 = r5.1 then
          f_X12_held_77 F N (1 : Int32) r5.2
        else
          f_X12_held_77 F N (0 : Int32) r5.2
    else
      zvs r3.2 x0 12 <| (F 1 x0 x1 r3.2).bind fun r6 =>
      if r1.1 ≤ r6.1 then
        f_X12_held_53 F N (0 : Int32) r6.2
      else
        f_X12_held_53 F N (1 : Int32) r6.2
  else
    zvs r2.2 x0 12 <| (F 1 x0 x1 r2.2).bind fun r7 =>
    if r7.1 ≤ r1.1 then
      f_X12_held_29 F N (0 : Int32) r7.2
    else
      f_X12_held_29 F N (1 : Int32) r7.2

def f_X12_sum_78 (F : Nat → Nat → Int32 → ZS → Option (Int32 × ZS)) (N : Nat) (x0 : Nat) (x1 : Int32) (s0 : Int32) (g : ZS) : Option ((Int32 × ZS) ⊕ (Int32 × ZS)) :=
  some (.inl (s0, g))

def f_X12_sum_45 (F : Nat → Nat → Int32 → ZS → Option (Int32 × ZS)) (N : Nat) (x0 : Nat) (x1 : Int32) (x2 : Int32) (s0 : Int32) (g : ZS) : Option ((Int32 × ZS) ⊕ (Int32 × ZS)) :=
  (zrdI g x0 12 14).bind fun v1 =>
  (zwrI g x0 12 14 (v1 + (1 : Int32))).bind fun g2 =>
  zvs g2 x0 12 <| (F 2 x0 x1 g2).bind fun r3 =>
  if s0 = 0 then
    f_X12_sum_78 F N x0 x1 (x2 - r3.1) r3.2
  else
    f_X12_sum_78 F N x0 x1 (x2 + r3.1) r3.2

def f_X12_sum_31 (F : Nat → Nat → Int32 → ZS → Option (Int32 × ZS)) (N : Nat) (x0 : Nat) (x1 : Int32) (x2 : Int32)  (g : ZS) : Option ((Int32 × ZS) ⊕ (Int32 × ZS)) :=
  zvs g x0 12 <| (f_X12_here x0 g).bind fun v1 =>
  if v1 = (43 : Int32) then
    f_X12_sum_45 F N x0 x1 x2 (1 : Int32) g
  else
    f_X12_sum_45 F N x0 x1 x2 (0 : Int32) g

def f_X12_sum_82 (F : Nat → Nat → Int32 → ZS → Option (Int32 × ZS)) (N : Nat) (x2 : Int32)  (g : ZS) : Option (Int32 × ZS) :=
  some (x2, g)

def f_X12_sum_6 (F : Nat → Nat → Int32 → ZS → Option (Int32 × ZS)) (N : Nat) (x0 : Nat) (x1 : Int32) (x2 : Int32)  (g : ZS) : Option ((Int32 × ZS) ⊕ (Int32 × ZS)) :=
  zvs g x0 12 <| (f_X12_fine x0 g).bind fun v1 =>
  if v1 = 0 then
    (
    f_X12_sum_82 F N x2 g).map Sum.inr
  else
    zvs g x0 12 <| (f_X12_here x0 g).bind fun v2 =>
    if v2 = (43 : Int32) then
      f_X12_sum_31 F N x0 x1 x2 g
    else
      zvs g x0 12 <| (f_X12_here x0 g).bind fun v3 =>
      if v3 = (45 : Int32) then
        f_X12_sum_31 F N x0 x1 x2 g
      else
        (
        f_X12_sum_82 F N x2 g).map Sum.inr

def f_X12_sum (F : Nat → Nat → Int32 → ZS → Option (Int32 × ZS)) (N : Nat) (x0 : Nat) (x1 : Int32)  (g : ZS) : Option (Int32 × ZS) :=
  zvs g x0 12 <| (F 2 x0 x1 g).bind fun r1 =>
  zloop (fun s => f_X12_sum_6 F N x0 x1 s.1 s.2) N (r1.1, r1.2)

def f_X12_product_87 (F : Nat → Nat → Int32 → ZS → Option (Int32 × ZS)) (N : Nat) (x0 : Nat) (x1 : Int32) (s0 : Int32) (g : ZS) : Option ((Int32 × ZS) ⊕ (Int32 × ZS)) :=
  some (.inl (s0, g))

def f_X12_product_45 (F : Nat → Nat → Int32 → ZS → Option (Int32 × ZS)) (N : Nat) (x0 : Nat) (x1 : Int32) (x2 : Int32) (s0 : Int32) (g : ZS) : Option ((Int32 × ZS) ⊕ (Int32 × ZS)) :=
  (zrdI g x0 12 14).bind fun v1 =>
  (zwrI g x0 12 14 (v1 + (1 : Int32))).bind fun g2 =>
  zvs g2 x0 12 <| (F 3 x0 x1 g2).bind fun r3 =>
  if s0 = 0 then
    if r3.1 = 0 then
      f_X12_product_87 F N x0 x1 (0 : Int32) r3.2
    else
      if r3.1 = 0 then none else
      f_X12_product_87 F N x0 x1 (x2 / r3.1) r3.2
  else
    f_X12_product_87 F N x0 x1 (x2 * r3.1) r3.2

def f_X12_product_31 (F : Nat → Nat → Int32 → ZS → Option (Int32 × ZS)) (N : Nat) (x0 : Nat) (x1 : Int32) (x2 : Int32)  (g : ZS) : Option ((Int32 × ZS) ⊕ (Int32 × ZS)) :=
  zvs g x0 12 <| (f_X12_here x0 g).bind fun v1 =>
  if v1 = (42 : Int32) then
    f_X12_product_45 F N x0 x1 x2 (1 : Int32) g
  else
    f_X12_product_45 F N x0 x1 x2 (0 : Int32) g

def f_X12_product_91 (F : Nat → Nat → Int32 → ZS → Option (Int32 × ZS)) (N : Nat) (x2 : Int32)  (g : ZS) : Option (Int32 × ZS) :=
  some (x2, g)

def f_X12_product_6 (F : Nat → Nat → Int32 → ZS → Option (Int32 × ZS)) (N : Nat) (x0 : Nat) (x1 : Int32) (x2 : Int32)  (g : ZS) : Option ((Int32 × ZS) ⊕ (Int32 × ZS)) :=
  zvs g x0 12 <| (f_X12_fine x0 g).bind fun v1 =>
  if v1 = 0 then
    (
    f_X12_product_91 F N x2 g).map Sum.inr
  else
    zvs g x0 12 <| (f_X12_here x0 g).bind fun v2 =>
    if v2 = (42 : Int32) then
      f_X12_product_31 F N x0 x1 x2 g
    else
      zvs g x0 12 <| (f_X12_here x0 g).bind fun v3 =>
      if v3 = (47 : Int32) then
        f_X12_product_31 F N x0 x1 x2 g
      else
        (
        f_X12_product_91 F N x2 g).map Sum.inr

def f_X12_product (F : Nat → Nat → Int32 → ZS → Option (Int32 × ZS)) (N : Nat) (x0 : Nat) (x1 : Int32)  (g : ZS) : Option (Int32 × ZS) :=
  zvs g x0 12 <| (F 3 x0 x1 g).bind fun r1 =>
  zloop (fun s => f_X12_product_6 F N x0 x1 s.1 s.2) N (r1.1, r1.2)

def f_X12_thing_132 (F : Nat → Nat → Int32 → ZS → Option (Int32 × ZS)) (N : Nat)  (s0 : Int32) (g : ZS) : Option (Int32 × ZS) :=
  some (s0, g)

def f_X12_thing_67 (F : Nat → Nat → Int32 → ZS → Option (Int32 × ZS)) (N : Nat) (x0 : Nat) (x2 : Int32)  (g : ZS) : Option (Int32 × ZS) :=
  (f_X12_in x2 (48 : Int32) (57 : Int32)).bind fun v1 =>
  if v1 = 0 then
    (f_X12_letterOf x2).bind fun v2 =>
    if v2 = (-1 : Int32) then
      (zrdI g x0 12 14).bind fun v9 =>
      zvs g x0 12 <| (f_X12_fault x0 v9 g).bind fun g10 =>
      some ((0 : Int32), g10)
    else
      (zrdI g x0 12 14).bind fun v3 =>
      (zwrI g x0 12 14 (v3 + (1 : Int32))).bind fun g4 =>
      (zrdI g4 x0 12 20).bind fun v5 =>
      if v5 = 0 then
        f_X12_thing_132 F N (0 : Int32) g4
      else
        (zrdR g4 x0 12 21).bind fun v6 =>
        (f_X12_letterOf x2).bind fun v7 =>
        (zald 20 g4 v6 v7).bind fun v8 =>
        f_X12_thing_132 F N v8 g4
  else
    zvs g x0 12 <| (f_X12_number N x0 (3 : Int32) g).bind fun r11 =>
    some (r11.1, r11.2)

def f_X12_thing (F : Nat → Nat → Int32 → ZS → Option (Int32 × ZS)) (N : Nat) (x0 : Nat) (x1 : Int32)  (g : ZS) : Option (Int32 × ZS) :=
  zvs g x0 12 <| (f_X12_passes x0 (45 : Int32) g).bind fun r1 =>
  if r1.1 = 0 then
    zvs r1.2 x0 12 <| (f_X12_fine x0 r1.2).bind fun v2 =>
    if v2 = 0 then
      some ((0 : Int32), r1.2)
    else
      zvs r1.2 x0 12 <| (f_X12_here x0 r1.2).bind fun v3 =>
      if v3 = (40 : Int32) then
        if (4 : Int32) ≤ x1 then
          f_X12_thing_67 F N x0 v3 r1.2
        else
          (zrdI r1.2 x0 12 14).bind fun v4 =>
          (zwrI r1.2 x0 12 14 (v4 + (1 : Int32))).bind fun g5 =>
          zvs g5 x0 12 <| (F 0 x0 (x1 + (1 : Int32)) g5).bind fun r6 =>
          zvs r6.2 x0 12 <| (f_X12_need x0 (41 : Int32) r6.2).bind fun g7 =>
          some (r6.1, g7)
      else
        f_X12_thing_67 F N x0 v3 r1.2
  else
    zvs r1.2 x0 12 <| (F 3 x0 x1 r1.2).bind fun r8 =>
    some (-r8.1, r8.2)

theorem j_X12_held_29 {X : ZX} {F : Nat → Nat → Int32 → ZS → Option (Int32 × ZS)} {d : Nat} (hd : 4 ≤ d) (hF_X12_sum : ∀ (x0 : Nat) (x1 : Int32) (g : ZS) r, F 1 x0 x1 g = some r → zCt (xl X) (xD X) (xB X) yX12_sum (Y_X12_sum d) [.ref x0, .int x1] g (some (.int r.1)) r.2) (N : Nat)  (s0 : Int32)  (g : ZS) {K : (Int32 × ZS) → Prop} (h0 : ∀ v g, K (v, g) → xK X (some (.int v)) g) : J (Y_X12_held (d + 1)) X 0 0 29 [none, none, none] [.int s0] g (f_X12_held_29 F N s0 g) K := by
  unfold f_X12_held_29
  exact J_reti (show Dc (Y_X12_held (d + 1)) 29 (.ireturn) 1 30 from ⟨(by decide +kernel : decode cX12_held 29 = .ok (.ireturn, 1)), rfl⟩) rfl (h0 _ _) (Nat.le_of_ble_eq_true rfl) (Nat.le_of_ble_eq_true rfl)

theorem j_X12_held_53 {X : ZX} {F : Nat → Nat → Int32 → ZS → Option (Int32 × ZS)} {d : Nat} (hd : 4 ≤ d) (hF_X12_sum : ∀ (x0 : Nat) (x1 : Int32) (g : ZS) r, F 1 x0 x1 g = some r → zCt (xl X) (xD X) (xB X) yX12_sum (Y_X12_sum d) [.ref x0, .int x1] g (some (.int r.1)) r.2) (N : Nat)  (s0 : Int32)  (g : ZS) {K : (Int32 × ZS) → Prop} (h0 : ∀ v g, K (v, g) → xK X (some (.int v)) g) : J (Y_X12_held (d + 1)) X 0 0 53 [none, none, none] [.int s0] g (f_X12_held_53 F N s0 g) K := by
  unfold f_X12_held_53
  exact J_reti (show Dc (Y_X12_held (d + 1)) 53 (.ireturn) 1 54 from ⟨(by decide +kernel : decode cX12_held 53 = .ok (.ireturn, 1)), rfl⟩) rfl (h0 _ _) (Nat.le_of_ble_eq_true rfl) (Nat.le_of_ble_eq_true rfl)

theorem j_X12_held_77 {X : ZX} {F : Nat → Nat → Int32 → ZS → Option (Int32 × ZS)} {d : Nat} (hd : 4 ≤ d) (hF_X12_sum : ∀ (x0 : Nat) (x1 : Int32) (g : ZS) r, F 1 x0 x1 g = some r → zCt (xl X) (xD X) (xB X) yX12_sum (Y_X12_sum d) [.ref x0, .int x1] g (some (.int r.1)) r.2) (N : Nat)  (s0 : Int32)  (g : ZS) {K : (Int32 × ZS) → Prop} (h0 : ∀ v g, K (v, g) → xK X (some (.int v)) g) : J (Y_X12_held (d + 1)) X 0 0 77 [none, none, none] [.int s0] g (f_X12_held_77 F N s0 g) K := by
  unfold f_X12_held_77
  exact J_reti (show Dc (Y_X12_held (d + 1)) 77 (.ireturn) 1 78 from ⟨(by decide +kernel : decode cX12_held 77 = .ok (.ireturn, 1)), rfl⟩) rfl (h0 _ _) (Nat.le_of_ble_eq_true rfl) (Nat.le_of_ble_eq_true rfl)

theorem j_X12_held {X : ZX} {F : Nat → Nat → Int32 → ZS → Option (Int32 × ZS)} {d : Nat} (hd : 4 ≤ d) (hF_X12_sum : ∀ (x0 : Nat) (x1 : Int32) (g : ZS) r, F 1 x0 x1 g = some r → zCt (xl X) (xD X) (xB X) yX12_sum (Y_X12_sum d) [.ref x0, .int x1] g (some (.int r.1)) r.2) (N : Nat) (x0 : Nat) (x1 : Int32)   (g : ZS) {K : (Int32 × ZS) → Prop} (h0 : ∀ v g, K (v, g) → xK X (some (.int v)) g) : J (Y_X12_held (d + 1)) X 0 0 0 [some (.ref x0), some (.int x1), none] [] g (f_X12_held F N x0 x1 g) K := by
  unfold f_X12_held
  refine J_aload_n rfl rfl (show Dc (Y_X12_held (d + 1)) 0 (.aload_n 0) 1 1 from ⟨(by decide +kernel : decode cX12_held 0 = .ok (.aload_n 0, 1)), rfl⟩) ?_
  refine J_iload_n rfl rfl (show Dc (Y_X12_held (d + 1)) 1 (.iload_n 1) 1 2 from ⟨(by decide +kernel : decode cX12_held 1 = .ok (.iload_n 1, 1)), rfl⟩) ?_
  refine J_callVi (fun r => r.1) (fun r => r.2) (show Dc (Y_X12_held (d + 1)) 2 (.invokevirtual 189) 3 5 from ⟨(by decide +kernel : decode cX12_held 2 = .ok (.invokevirtual 189, 3)), rfl⟩) w_m_RX12_189 w_in_X12_sum rfl w_se_X12_sum (w_cw_X12_sum _) (hF_X12_sum x0 x1 g) rfl rfl (Nat.le_refl _) (Nat.le_of_ble_eq_true rfl) (Nat.le_of_ble_eq_true rfl) (Nat.le_of_ble_eq_true rfl) (fun r1 => ?_)
  refine J_istore_n [some (.ref x0), some (.int x1), some (.int r1.1)] (show Dc (Y_X12_held (d + 1)) 5 (.istore_n 2) 1 6 from ⟨(by decide +kernel : decode cX12_held 5 = .ok (.istore_n 2, 1)), rfl⟩) rfl (Nat.le_of_ble_eq_true rfl) rfl rfl ?_
  refine J_aload_n rfl rfl (show Dc (Y_X12_held (d + 1)) 6 (.aload_n 0) 1 7 from ⟨(by decide +kernel : decode cX12_held 6 = .ok (.aload_n 0, 1)), rfl⟩) ?_
  refine J_bipush (60 : Int32) rfl (show Dc (Y_X12_held (d + 1)) 7 (.bipush 60) 2 9 from ⟨(by decide +kernel : decode cX12_held 7 = .ok (.bipush 60, 2)), rfl⟩) ?_
  refine J_callVi (fun r => r.1) (fun r => r.2) (show Dc (Y_X12_held (d + 1)) 9 (.invokevirtual 153) 3 12 from ⟨(by decide +kernel : decode cX12_held 9 = .ok (.invokevirtual 153, 3)), rfl⟩) w_m_RX12_153 w_in_X12_passes rfl w_se_X12_passes w_cw_X12_passes (c_X12_passes x0 (60 : Int32) r1.2) rfl rfl (show 2 + 1 ≤ d + 1 by omega) (Nat.le_of_ble_eq_true rfl) (Nat.le_of_ble_eq_true rfl) (Nat.le_of_ble_eq_true rfl) (fun r2 => ?_)
  refine J_if_eq (tg := 30) (show Dc (Y_X12_held (d + 1)) 12 (.ifCond .eq 18) 3 15 from ⟨(by decide +kernel : decode cX12_held 12 = .ok (.ifCond .eq 18, 3)), rfl⟩) (by decide) (fun h => ?_) (fun h => ?_)
  · refine J_aload_n rfl rfl (show Dc (Y_X12_held (d + 1)) 30 (.aload_n 0) 1 31 from ⟨(by decide +kernel : decode cX12_held 30 = .ok (.aload_n 0, 1)), rfl⟩) ?_
    refine J_bipush (62 : Int32) rfl (show Dc (Y_X12_held (d + 1)) 31 (.bipush 62) 2 33 from ⟨(by decide +kernel : decode cX12_held 31 = .ok (.bipush 62, 2)), rfl⟩) ?_
    refine J_callVi (fun r => r.1) (fun r => r.2) (show Dc (Y_X12_held (d + 1)) 33 (.invokevirtual 153) 3 36 from ⟨(by decide +kernel : decode cX12_held 33 = .ok (.invokevirtual 153, 3)), rfl⟩) w_m_RX12_153 w_in_X12_passes rfl w_se_X12_passes w_cw_X12_passes (c_X12_passes x0 (62 : Int32) r2.2) rfl rfl (show 2 + 1 ≤ d + 1 by omega) (Nat.le_of_ble_eq_true rfl) (Nat.le_of_ble_eq_true rfl) (Nat.le_of_ble_eq_true rfl) (fun r3 => ?_)
    refine J_if_eq (tg := 54) (show Dc (Y_X12_held (d + 1)) 36 (.ifCond .eq 18) 3 39 from ⟨(by decide +kernel : decode cX12_held 36 = .ok (.ifCond .eq 18, 3)), rfl⟩) (by decide) (fun h => ?_) (fun h => ?_)
    · refine J_aload_n rfl rfl (show Dc (Y_X12_held (d + 1)) 54 (.aload_n 0) 1 55 from ⟨(by decide +kernel : decode cX12_held 54 = .ok (.aload_n 0, 1)), rfl⟩) ?_
      refine J_bipush (61 : Int32) rfl (show Dc (Y_X12_held (d + 1)) 55 (.bipush 61) 2 57 from ⟨(by decide +kernel : decode cX12_held 55 = .ok (.bipush 61, 2)), rfl⟩) ?_
      refine J_callVi (fun r => r.1) (fun r => r.2) (show Dc (Y_X12_held (d + 1)) 57 (.invokevirtual 153) 3 60 from ⟨(by decide +kernel : decode cX12_held 57 = .ok (.invokevirtual 153, 3)), rfl⟩) w_m_RX12_153 w_in_X12_passes rfl w_se_X12_passes w_cw_X12_passes (c_X12_passes x0 (61 : Int32) r3.2) rfl rfl (show 2 + 1 ≤ d + 1 by omega) (Nat.le_of_ble_eq_true rfl) (Nat.le_of_ble_eq_true rfl) (Nat.le_of_ble_eq_true rfl) (fun r4 => ?_)
      refine J_if_eq (tg := 78) (show Dc (Y_X12_held (d + 1)) 60 (.ifCond .eq 18) 3 63 from ⟨(by decide +kernel : decode cX12_held 60 = .ok (.ifCond .eq 18, 3)), rfl⟩) (by decide) (fun h => ?_) (fun h => ?_)
      · refine J_iload_n rfl rfl (show Dc (Y_X12_held (d + 1)) 78 (.iload_n 2) 1 79 from ⟨(by decide +kernel : decode cX12_held 78 = .ok (.iload_n 2, 1)), rfl⟩) ?_
        exact J_reti (show Dc (Y_X12_held (d + 1)) 79 (.ireturn) 1 80 from ⟨(by decide +kernel : decode cX12_held 79 = .ok (.ireturn, 1)), rfl⟩) rfl (h0 _ _) (Nat.le_of_ble_eq_true rfl) (Nat.le_of_ble_eq_true rfl)
      · refine J_iload_n rfl rfl (show Dc (Y_X12_held (d + 1)) 63 (.iload_n 2) 1 64 from ⟨(by decide +kernel : decode cX12_held 63 = .ok (.iload_n 2, 1)), rfl⟩) ?_
        refine J_aload_n rfl rfl (show Dc (Y_X12_held (d + 1)) 64 (.aload_n 0) 1 65 from ⟨(by decide +kernel : decode cX12_held 64 = .ok (.aload_n 0, 1)), rfl⟩) ?_
        refine J_iload_n rfl rfl (show Dc (Y_X12_held (d + 1)) 65 (.iload_n 1) 1 66 from ⟨(by decide +kernel : decode cX12_held 65 = .ok (.iload_n 1, 1)), rfl⟩) ?_
        refine J_callVi (fun r => r.1) (fun r => r.2) (show Dc (Y_X12_held (d + 1)) 66 (.invokevirtual 189) 3 69 from ⟨(by decide +kernel : decode cX12_held 66 = .ok (.invokevirtual 189, 3)), rfl⟩) w_m_RX12_189 w_in_X12_sum rfl w_se_X12_sum (w_cw_X12_sum _) (hF_X12_sum x0 x1 r4.2) rfl rfl (Nat.le_refl _) (Nat.le_of_ble_eq_true rfl) (Nat.le_of_ble_eq_true rfl) (Nat.le_of_ble_eq_true rfl) (fun r5 => ?_)
        refine J_icmp_ne (tg := 76) (show Dc (Y_X12_held (d + 1)) 69 (.if_icmp .ne 7) 3 72 from ⟨(by decide +kernel : decode cX12_held 69 = .ok (.if_icmp .ne 7, 3)), rfl⟩) (by decide) (fun h => ?_) (fun h => ?_)
        · refine J_iconst (0 : Int32) rfl (show Dc (Y_X12_held (d + 1)) 76 (.iconst 0) 1 77 from ⟨(by decide +kernel : decode cX12_held 76 = .ok (.iconst 0, 1)), rfl⟩) ?_
          refine J_mask [false, false, false] ?_
          exact j_X12_held_77 hd hF_X12_sum N (0 : Int32) r5.2 h0
        · refine J_iconst (1 : Int32) rfl (show Dc (Y_X12_held (d + 1)) 72 (.iconst 1) 1 73 from ⟨(by decide +kernel : decode cX12_held 72 = .ok (.iconst 1, 1)), rfl⟩) ?_
          refine J_goto (tg := 77) (show Dc (Y_X12_held (d + 1)) 73 (.goto 4) 3 76 from ⟨(by decide +kernel : decode cX12_held 73 = .ok (.goto 4, 3)), rfl⟩) (by decide) ?_
          refine J_mask [false, false, false] ?_
          exact j_X12_held_77 hd hF_X12_sum N (1 : Int32) r5.2 h0
    · refine J_iload_n rfl rfl (show Dc (Y_X12_held (d + 1)) 39 (.iload_n 2) 1 40 from ⟨(by decide +kernel : decode cX12_held 39 = .ok (.iload_n 2, 1)), rfl⟩) ?_
      refine J_aload_n rfl rfl (show Dc (Y_X12_held (d + 1)) 40 (.aload_n 0) 1 41 from ⟨(by decide +kernel : decode cX12_held 40 = .ok (.aload_n 0, 1)), rfl⟩) ?_
      refine J_iload_n rfl rfl (show Dc (Y_X12_held (d + 1)) 41 (.iload_n 1) 1 42 from ⟨(by decide +kernel : decode cX12_held 41 = .ok (.iload_n 1, 1)), rfl⟩) ?_
      refine J_callVi (fun r => r.1) (fun r => r.2) (show Dc (Y_X12_held (d + 1)) 42 (.invokevirtual 189) 3 45 from ⟨(by decide +kernel : decode cX12_held 42 = .ok (.invokevirtual 189, 3)), rfl⟩) w_m_RX12_189 w_in_X12_sum rfl w_se_X12_sum (w_cw_X12_sum _) (hF_X12_sum x0 x1 r3.2) rfl rfl (Nat.le_refl _) (Nat.le_of_ble_eq_true rfl) (Nat.le_of_ble_eq_true rfl) (Nat.le_of_ble_eq_true rfl) (fun r6 => ?_)
      refine J_icmp_le (tg := 52) (show Dc (Y_X12_held (d + 1)) 45 (.if_icmp .le 7) 3 48 from ⟨(by decide +kernel : decode cX12_held 45 = .ok (.if_icmp .le 7, 3)), rfl⟩) (by decide) (fun h => ?_) (fun h => ?_)
      · refine J_iconst (0 : Int32) rfl (show Dc (Y_X12_held (d + 1)) 52 (.iconst 0) 1 53 from ⟨(by decide +kernel : decode cX12_held 52 = .ok (.iconst 0, 1)), rfl⟩) ?_
        refine J_mask [false, false, false] ?_
        exact j_X12_held_53 hd hF_X12_sum N (0 : Int32) r6.2 h0
      · refine J_iconst (1 : Int32) rfl (show Dc (Y_X12_held (d + 1)) 48 (.iconst 1) 1 49 from ⟨(by decide +kernel : decode cX12_held 48 = .ok (.iconst 1, 1)), rfl⟩) ?_
        refine J_goto (tg := 53) (show Dc (Y_X12_held (d + 1)) 49 (.goto 4) 3 52 from ⟨(by decide +kernel : decode cX12_held 49 = .ok (.goto 4, 3)), rfl⟩) (by decide) ?_
        refine J_mask [false, false, false] ?_
        exact j_X12_held_53 hd hF_X12_sum N (1 : Int32) r6.2 h0
  · refine J_iload_n rfl rfl (show Dc (Y_X12_held (d + 1)) 15 (.iload_n 2) 1 16 from ⟨(by decide +kernel : decode cX12_held 15 = .ok (.iload_n 2, 1)), rfl⟩) ?_
    refine J_aload_n rfl rfl (show Dc (Y_X12_held (d + 1)) 16 (.aload_n 0) 1 17 from ⟨(by decide +kernel : decode cX12_held 16 = .ok (.aload_n 0, 1)), rfl⟩) ?_
    refine J_iload_n rfl rfl (show Dc (Y_X12_held (d + 1)) 17 (.iload_n 1) 1 18 from ⟨(by decide +kernel : decode cX12_held 17 = .ok (.iload_n 1, 1)), rfl⟩) ?_
    refine J_callVi (fun r => r.1) (fun r => r.2) (show Dc (Y_X12_held (d + 1)) 18 (.invokevirtual 189) 3 21 from ⟨(by decide +kernel : decode cX12_held 18 = .ok (.invokevirtual 189, 3)), rfl⟩) w_m_RX12_189 w_in_X12_sum rfl w_se_X12_sum (w_cw_X12_sum _) (hF_X12_sum x0 x1 r2.2) rfl rfl (Nat.le_refl _) (Nat.le_of_ble_eq_true rfl) (Nat.le_of_ble_eq_true rfl) (Nat.le_of_ble_eq_true rfl) (fun r7 => ?_)
    refine J_icmp_ge (tg := 28) (show Dc (Y_X12_held (d + 1)) 21 (.if_icmp .ge 7) 3 24 from ⟨(by decide +kernel : decode cX12_held 21 = .ok (.if_icmp .ge 7, 3)), rfl⟩) (by decide) (fun h => ?_) (fun h => ?_)
    · refine J_iconst (0 : Int32) rfl (show Dc (Y_X12_held (d + 1)) 28 (.iconst 0) 1 29 from ⟨(by decide +kernel : decode cX12_held 28 = .ok (.iconst 0, 1)), rfl⟩) ?_
      refine J_mask [false, false, false] ?_
      exact j_X12_held_29 hd hF_X12_sum N (0 : Int32) r7.2 h0
    · refine J_iconst (1 : Int32) rfl (show Dc (Y_X12_held (d + 1)) 24 (.iconst 1) 1 25 from ⟨(by decide +kernel : decode cX12_held 24 = .ok (.iconst 1, 1)), rfl⟩) ?_
      refine J_goto (tg := 29) (show Dc (Y_X12_held (d + 1)) 25 (.goto 4) 3 28 from ⟨(by decide +kernel : decode cX12_held 25 = .ok (.goto 4, 3)), rfl⟩) (by decide) ?_
      refine J_mask [false, false, false] ?_
      exact j_X12_held_29 hd hF_X12_sum N (1 : Int32) r7.2 h0

theorem j_X12_sum_78 {X : ZX} {F : Nat → Nat → Int32 → ZS → Option (Int32 × ZS)} {d : Nat} (hd : 4 ≤ d) (hF_X12_product : ∀ (x0 : Nat) (x1 : Int32) (g : ZS) r, F 2 x0 x1 g = some r → zCt (xl X) (xD X) (xB X) yX12_product (Y_X12_product d) [.ref x0, .int x1] g (some (.int r.1)) r.2) (N : Nat) (x0 : Nat) (x1 : Int32) (s0 : Int32)  (g : ZS) {K : ((Int32 × ZS) ⊕ (Int32 × ZS)) → Prop} (h0 : ∀ v g, K (.inr (v, g)) → xK X (some (.int v)) g) (hL6 : ∀ s, K (.inl s) → zG (Y_X12_sum (d + 1)) X 0 0 6 [some (.ref x0), some (.int x1), some (.int s.1), none, none] [] s.2) : J (Y_X12_sum (d + 1)) X 0 0 78 [some (.ref x0), some (.int x1), none, none, none] [.int s0] g (f_X12_sum_78 F N x0 x1 s0 g) K := by
  unfold f_X12_sum_78
  refine J_istore_n [some (.ref x0), some (.int x1), some (.int s0), none, none] (show Dc (Y_X12_sum (d + 1)) 78 (.istore_n 2) 1 79 from ⟨(by decide +kernel : decode cX12_sum 78 = .ok (.istore_n 2, 1)), rfl⟩) rfl (Nat.le_of_ble_eq_true rfl) rfl rfl ?_
  refine J_goto (tg := 6) (show Dc (Y_X12_sum (d + 1)) 79 (.goto (-73)) 3 82 from ⟨(by decide +kernel : decode cX12_sum 79 = .ok (.goto (-73), 3)), rfl⟩) (by decide) ?_
  exact J_leaf (fun h => hL6 (s0, g) h)

theorem j_X12_sum_45 {X : ZX} {F : Nat → Nat → Int32 → ZS → Option (Int32 × ZS)} {d : Nat} (hd : 4 ≤ d) (hF_X12_product : ∀ (x0 : Nat) (x1 : Int32) (g : ZS) r, F 2 x0 x1 g = some r → zCt (xl X) (xD X) (xB X) yX12_product (Y_X12_product d) [.ref x0, .int x1] g (some (.int r.1)) r.2) (N : Nat) (x0 : Nat) (x1 : Int32) (x2 : Int32) (s0 : Int32)  (g : ZS) {K : ((Int32 × ZS) ⊕ (Int32 × ZS)) → Prop} (h0 : ∀ v g, K (.inr (v, g)) → xK X (some (.int v)) g) (hL6 : ∀ s, K (.inl s) → zG (Y_X12_sum (d + 1)) X 0 0 6 [some (.ref x0), some (.int x1), some (.int s.1), none, none] [] s.2) : J (Y_X12_sum (d + 1)) X 0 0 45 [some (.ref x0), some (.int x1), some (.int x2), none, none] [.int s0] g (f_X12_sum_45 F N x0 x1 x2 s0 g) K := by
  unfold f_X12_sum_45
  refine J_istore_n [some (.ref x0), some (.int x1), some (.int x2), some (.int s0), none] (show Dc (Y_X12_sum (d + 1)) 45 (.istore_n 3) 1 46 from ⟨(by decide +kernel : decode cX12_sum 45 = .ok (.istore_n 3, 1)), rfl⟩) rfl (Nat.le_of_ble_eq_true rfl) rfl rfl ?_
  refine J_aload_n rfl rfl (show Dc (Y_X12_sum (d + 1)) 46 (.aload_n 0) 1 47 from ⟨(by decide +kernel : decode cX12_sum 46 = .ok (.aload_n 0, 1)), rfl⟩) ?_
  refine J_dup rfl (show Dc (Y_X12_sum (d + 1)) 47 (.dup) 1 48 from ⟨(by decide +kernel : decode cX12_sum 47 = .ok (.dup, 1)), rfl⟩) ?_
  refine J_getI (show Dc (Y_X12_sum (d + 1)) 48 (.getfield 135) 3 51 from ⟨(by decide +kernel : decode cX12_sum 48 = .ok (.getfield 135, 3)), rfl⟩) w_f_RX12_135 rfl (fun v1 => ?_)
  refine J_iconst (1 : Int32) rfl (show Dc (Y_X12_sum (d + 1)) 51 (.iconst 1) 1 52 from ⟨(by decide +kernel : decode cX12_sum 51 = .ok (.iconst 1, 1)), rfl⟩) ?_
  refine J_iadd (show Dc (Y_X12_sum (d + 1)) 52 (.iadd) 1 53 from ⟨(by decide +kernel : decode cX12_sum 52 = .ok (.iadd, 1)), rfl⟩) ?_
  refine J_putI (show Dc (Y_X12_sum (d + 1)) 53 (.putfield 135) 3 56 from ⟨(by decide +kernel : decode cX12_sum 53 = .ok (.putfield 135, 3)), rfl⟩) w_f_RX12_135 rfl rfl (fun g2 => ?_) (fun h => by cases h)
  refine J_aload_n rfl rfl (show Dc (Y_X12_sum (d + 1)) 56 (.aload_n 0) 1 57 from ⟨(by decide +kernel : decode cX12_sum 56 = .ok (.aload_n 0, 1)), rfl⟩) ?_
  refine J_iload_n rfl rfl (show Dc (Y_X12_sum (d + 1)) 57 (.iload_n 1) 1 58 from ⟨(by decide +kernel : decode cX12_sum 57 = .ok (.iload_n 1, 1)), rfl⟩) ?_
  refine J_callVi (fun r => r.1) (fun r => r.2) (show Dc (Y_X12_sum (d + 1)) 58 (.invokevirtual 192) 3 61 from ⟨(by decide +kernel : decode cX12_sum 58 = .ok (.invokevirtual 192, 3)), rfl⟩) w_m_RX12_192 w_in_X12_product rfl w_se_X12_product (w_cw_X12_product _) (hF_X12_product x0 x1 g2) rfl rfl (Nat.le_refl _) (Nat.le_of_ble_eq_true rfl) (Nat.le_of_ble_eq_true rfl) (Nat.le_of_ble_eq_true rfl) (fun r3 => ?_)
  refine J_istore [some (.ref x0), some (.int x1), some (.int x2), some (.int s0), some (.int r3.1)] (show Dc (Y_X12_sum (d + 1)) 61 (.istore 4) 2 63 from ⟨(by decide +kernel : decode cX12_sum 61 = .ok (.istore 4, 2)), rfl⟩) (Nat.le_of_ble_eq_true rfl) rfl rfl ?_
  refine J_iload_n rfl rfl (show Dc (Y_X12_sum (d + 1)) 63 (.iload_n 3) 1 64 from ⟨(by decide +kernel : decode cX12_sum 63 = .ok (.iload_n 3, 1)), rfl⟩) ?_
  refine J_if_eq (tg := 74) (show Dc (Y_X12_sum (d + 1)) 64 (.ifCond .eq 10) 3 67 from ⟨(by decide +kernel : decode cX12_sum 64 = .ok (.ifCond .eq 10, 3)), rfl⟩) (by decide) (fun h => ?_) (fun h => ?_)
  · refine J_iload_n rfl rfl (show Dc (Y_X12_sum (d + 1)) 74 (.iload_n 2) 1 75 from ⟨(by decide +kernel : decode cX12_sum 74 = .ok (.iload_n 2, 1)), rfl⟩) ?_
    refine J_iload rfl (show Dc (Y_X12_sum (d + 1)) 75 (.iload 4) 2 77 from ⟨(by decide +kernel : decode cX12_sum 75 = .ok (.iload 4, 2)), rfl⟩) ?_
    refine J_isub (show Dc (Y_X12_sum (d + 1)) 77 (.isub) 1 78 from ⟨(by decide +kernel : decode cX12_sum 77 = .ok (.isub, 1)), rfl⟩) ?_
    refine J_mask [true, true, false, false, false] ?_
    exact j_X12_sum_78 hd hF_X12_product N x0 x1 (x2 - r3.1) r3.2 h0 hL6
  · refine J_iload_n rfl rfl (show Dc (Y_X12_sum (d + 1)) 67 (.iload_n 2) 1 68 from ⟨(by decide +kernel : decode cX12_sum 67 = .ok (.iload_n 2, 1)), rfl⟩) ?_
    refine J_iload rfl (show Dc (Y_X12_sum (d + 1)) 68 (.iload 4) 2 70 from ⟨(by decide +kernel : decode cX12_sum 68 = .ok (.iload 4, 2)), rfl⟩) ?_
    refine J_iadd (show Dc (Y_X12_sum (d + 1)) 70 (.iadd) 1 71 from ⟨(by decide +kernel : decode cX12_sum 70 = .ok (.iadd, 1)), rfl⟩) ?_
    refine J_goto (tg := 78) (show Dc (Y_X12_sum (d + 1)) 71 (.goto 7) 3 74 from ⟨(by decide +kernel : decode cX12_sum 71 = .ok (.goto 7, 3)), rfl⟩) (by decide) ?_
    refine J_mask [true, true, false, false, false] ?_
    exact j_X12_sum_78 hd hF_X12_product N x0 x1 (x2 + r3.1) r3.2 h0 hL6

theorem j_X12_sum_31 {X : ZX} {F : Nat → Nat → Int32 → ZS → Option (Int32 × ZS)} {d : Nat} (hd : 4 ≤ d) (hF_X12_product : ∀ (x0 : Nat) (x1 : Int32) (g : ZS) r, F 2 x0 x1 g = some r → zCt (xl X) (xD X) (xB X) yX12_product (Y_X12_product d) [.ref x0, .int x1] g (some (.int r.1)) r.2) (N : Nat) (x0 : Nat) (x1 : Int32) (x2 : Int32)   (g : ZS) {K : ((Int32 × ZS) ⊕ (Int32 × ZS)) → Prop} (h0 : ∀ v g, K (.inr (v, g)) → xK X (some (.int v)) g) (hL6 : ∀ s, K (.inl s) → zG (Y_X12_sum (d + 1)) X 0 0 6 [some (.ref x0), some (.int x1), some (.int s.1), none, none] [] s.2) : J (Y_X12_sum (d + 1)) X 0 0 31 [some (.ref x0), some (.int x1), some (.int x2), none, none] [] g (f_X12_sum_31 F N x0 x1 x2 g) K := by
  unfold f_X12_sum_31
  refine J_aload_n rfl rfl (show Dc (Y_X12_sum (d + 1)) 31 (.aload_n 0) 1 32 from ⟨(by decide +kernel : decode cX12_sum 31 = .ok (.aload_n 0, 1)), rfl⟩) ?_
  refine J_callVi (fun r => r) (fun _ => g) (show Dc (Y_X12_sum (d + 1)) 32 (.invokevirtual 149) 3 35 from ⟨(by decide +kernel : decode cX12_sum 32 = .ok (.invokevirtual 149, 3)), rfl⟩) w_m_RX12_149 w_in_X12_here rfl w_se_X12_here w_cw_X12_here (c_X12_here x0 g) rfl rfl (show 1 + 1 ≤ d + 1 by omega) (Nat.le_of_ble_eq_true rfl) (Nat.le_of_ble_eq_true rfl) (Nat.le_of_ble_eq_true rfl) (fun v1 => ?_)
  refine J_bipush (43 : Int32) rfl (show Dc (Y_X12_sum (d + 1)) 35 (.bipush 43) 2 37 from ⟨(by decide +kernel : decode cX12_sum 35 = .ok (.bipush 43, 2)), rfl⟩) ?_
  refine J_icmp_ne (tg := 44) (show Dc (Y_X12_sum (d + 1)) 37 (.if_icmp .ne 7) 3 40 from ⟨(by decide +kernel : decode cX12_sum 37 = .ok (.if_icmp .ne 7, 3)), rfl⟩) (by decide) (fun h => ?_) (fun h => ?_)
  · refine J_iconst (0 : Int32) rfl (show Dc (Y_X12_sum (d + 1)) 44 (.iconst 0) 1 45 from ⟨(by decide +kernel : decode cX12_sum 44 = .ok (.iconst 0, 1)), rfl⟩) ?_
    exact j_X12_sum_45 hd hF_X12_product N x0 x1 x2 (0 : Int32) g h0 hL6
  · refine J_iconst (1 : Int32) rfl (show Dc (Y_X12_sum (d + 1)) 40 (.iconst 1) 1 41 from ⟨(by decide +kernel : decode cX12_sum 40 = .ok (.iconst 1, 1)), rfl⟩) ?_
    refine J_goto (tg := 45) (show Dc (Y_X12_sum (d + 1)) 41 (.goto 4) 3 44 from ⟨(by decide +kernel : decode cX12_sum 41 = .ok (.goto 4, 3)), rfl⟩) (by decide) ?_
    exact j_X12_sum_45 hd hF_X12_product N x0 x1 x2 (1 : Int32) g h0 hL6

theorem j_X12_sum_82 {X : ZX} {F : Nat → Nat → Int32 → ZS → Option (Int32 × ZS)} {d : Nat} (hd : 4 ≤ d) (hF_X12_product : ∀ (x0 : Nat) (x1 : Int32) (g : ZS) r, F 2 x0 x1 g = some r → zCt (xl X) (xD X) (xB X) yX12_product (Y_X12_product d) [.ref x0, .int x1] g (some (.int r.1)) r.2) (N : Nat) (x2 : Int32)   (g : ZS) {K : (Int32 × ZS) → Prop} (h0 : ∀ v g, K (v, g) → xK X (some (.int v)) g) : J (Y_X12_sum (d + 1)) X 0 0 82 [none, none, some (.int x2), none, none] [] g (f_X12_sum_82 F N x2 g) K := by
  unfold f_X12_sum_82
  refine J_iload_n rfl rfl (show Dc (Y_X12_sum (d + 1)) 82 (.iload_n 2) 1 83 from ⟨(by decide +kernel : decode cX12_sum 82 = .ok (.iload_n 2, 1)), rfl⟩) ?_
  exact J_reti (show Dc (Y_X12_sum (d + 1)) 83 (.ireturn) 1 84 from ⟨(by decide +kernel : decode cX12_sum 83 = .ok (.ireturn, 1)), rfl⟩) rfl (h0 _ _) (Nat.le_of_ble_eq_true rfl) (Nat.le_of_ble_eq_true rfl)

theorem j_X12_sum_6 {X : ZX} {F : Nat → Nat → Int32 → ZS → Option (Int32 × ZS)} {d : Nat} (hd : 4 ≤ d) (hF_X12_product : ∀ (x0 : Nat) (x1 : Int32) (g : ZS) r, F 2 x0 x1 g = some r → zCt (xl X) (xD X) (xB X) yX12_product (Y_X12_product d) [.ref x0, .int x1] g (some (.int r.1)) r.2) (N : Nat) (x0 : Nat) (x1 : Int32) (x2 : Int32)   (g : ZS) {K : ((Int32 × ZS) ⊕ (Int32 × ZS)) → Prop} (h0 : ∀ v g, K (.inr (v, g)) → xK X (some (.int v)) g) (hL6 : ∀ s, K (.inl s) → zG (Y_X12_sum (d + 1)) X 0 0 6 [some (.ref x0), some (.int x1), some (.int s.1), none, none] [] s.2) : J (Y_X12_sum (d + 1)) X 0 0 6 [some (.ref x0), some (.int x1), some (.int x2), none, none] [] g (f_X12_sum_6 F N x0 x1 x2 g) K := by
  unfold f_X12_sum_6
  refine J_aload_n rfl rfl (show Dc (Y_X12_sum (d + 1)) 6 (.aload_n 0) 1 7 from ⟨(by decide +kernel : decode cX12_sum 6 = .ok (.aload_n 0, 1)), rfl⟩) ?_
  refine J_callVi (fun r => r) (fun _ => g) (show Dc (Y_X12_sum (d + 1)) 7 (.invokevirtual 145) 3 10 from ⟨(by decide +kernel : decode cX12_sum 7 = .ok (.invokevirtual 145, 3)), rfl⟩) w_m_RX12_145 w_in_X12_fine rfl w_se_X12_fine w_cw_X12_fine (c_X12_fine x0 g) rfl rfl (show 1 + 1 ≤ d + 1 by omega) (Nat.le_of_ble_eq_true rfl) (Nat.le_of_ble_eq_true rfl) (Nat.le_of_ble_eq_true rfl) (fun v1 => ?_)
  refine J_if_eq (tg := 82) (show Dc (Y_X12_sum (d + 1)) 10 (.ifCond .eq 72) 3 13 from ⟨(by decide +kernel : decode cX12_sum 10 = .ok (.ifCond .eq 72, 3)), rfl⟩) (by decide) (fun h => ?_) (fun h => ?_)
  · refine J_mask [false, false, true, false, false] ?_
    refine J_map (f := Sum.inr) (fun _ h => h) ?_
    exact j_X12_sum_82 (K := fun o => K (.inr o)) hd hF_X12_product N x2 g h0
  · refine J_aload_n rfl rfl (show Dc (Y_X12_sum (d + 1)) 13 (.aload_n 0) 1 14 from ⟨(by decide +kernel : decode cX12_sum 13 = .ok (.aload_n 0, 1)), rfl⟩) ?_
    refine J_callVi (fun r => r) (fun _ => g) (show Dc (Y_X12_sum (d + 1)) 14 (.invokevirtual 149) 3 17 from ⟨(by decide +kernel : decode cX12_sum 14 = .ok (.invokevirtual 149, 3)), rfl⟩) w_m_RX12_149 w_in_X12_here rfl w_se_X12_here w_cw_X12_here (c_X12_here x0 g) rfl rfl (show 1 + 1 ≤ d + 1 by omega) (Nat.le_of_ble_eq_true rfl) (Nat.le_of_ble_eq_true rfl) (Nat.le_of_ble_eq_true rfl) (fun v2 => ?_)
    refine J_bipush (43 : Int32) rfl (show Dc (Y_X12_sum (d + 1)) 17 (.bipush 43) 2 19 from ⟨(by decide +kernel : decode cX12_sum 17 = .ok (.bipush 43, 2)), rfl⟩) ?_
    refine J_icmp_eq (tg := 31) (show Dc (Y_X12_sum (d + 1)) 19 (.if_icmp .eq 12) 3 22 from ⟨(by decide +kernel : decode cX12_sum 19 = .ok (.if_icmp .eq 12, 3)), rfl⟩) (by decide) (fun h => ?_) (fun h => ?_)
    · exact j_X12_sum_31 hd hF_X12_product N x0 x1 x2 g h0 hL6
    · refine J_aload_n rfl rfl (show Dc (Y_X12_sum (d + 1)) 22 (.aload_n 0) 1 23 from ⟨(by decide +kernel : decode cX12_sum 22 = .ok (.aload_n 0, 1)), rfl⟩) ?_
      refine J_callVi (fun r => r) (fun _ => g) (show Dc (Y_X12_sum (d + 1)) 23 (.invokevirtual 149) 3 26 from ⟨(by decide +kernel : decode cX12_sum 23 = .ok (.invokevirtual 149, 3)), rfl⟩) w_m_RX12_149 w_in_X12_here rfl w_se_X12_here w_cw_X12_here (c_X12_here x0 g) rfl rfl (show 1 + 1 ≤ d + 1 by omega) (Nat.le_of_ble_eq_true rfl) (Nat.le_of_ble_eq_true rfl) (Nat.le_of_ble_eq_true rfl) (fun v3 => ?_)
      refine J_bipush (45 : Int32) rfl (show Dc (Y_X12_sum (d + 1)) 26 (.bipush 45) 2 28 from ⟨(by decide +kernel : decode cX12_sum 26 = .ok (.bipush 45, 2)), rfl⟩) ?_
      refine J_icmp_ne (tg := 82) (show Dc (Y_X12_sum (d + 1)) 28 (.if_icmp .ne 54) 3 31 from ⟨(by decide +kernel : decode cX12_sum 28 = .ok (.if_icmp .ne 54, 3)), rfl⟩) (by decide) (fun h => ?_) (fun h => ?_)
      · refine J_mask [false, false, true, false, false] ?_
        refine J_map (f := Sum.inr) (fun _ h => h) ?_
        exact j_X12_sum_82 (K := fun o => K (.inr o)) hd hF_X12_product N x2 g h0
      · exact j_X12_sum_31 hd hF_X12_product N x0 x1 x2 g h0 hL6

theorem j_X12_sum {X : ZX} {F : Nat → Nat → Int32 → ZS → Option (Int32 × ZS)} {d : Nat} (hd : 4 ≤ d) (hF_X12_product : ∀ (x0 : Nat) (x1 : Int32) (g : ZS) r, F 2 x0 x1 g = some r → zCt (xl X) (xD X) (xB X) yX12_product (Y_X12_product d) [.ref x0, .int x1] g (some (.int r.1)) r.2) (N : Nat) (x0 : Nat) (x1 : Int32)   (g : ZS) {K : (Int32 × ZS) → Prop} (h0 : ∀ v g, K (v, g) → xK X (some (.int v)) g) : J (Y_X12_sum (d + 1)) X 0 0 0 [some (.ref x0), some (.int x1), none, none, none] [] g (f_X12_sum F N x0 x1 g) K := by
  unfold f_X12_sum
  refine J_aload_n rfl rfl (show Dc (Y_X12_sum (d + 1)) 0 (.aload_n 0) 1 1 from ⟨(by decide +kernel : decode cX12_sum 0 = .ok (.aload_n 0, 1)), rfl⟩) ?_
  refine J_iload_n rfl rfl (show Dc (Y_X12_sum (d + 1)) 1 (.iload_n 1) 1 2 from ⟨(by decide +kernel : decode cX12_sum 1 = .ok (.iload_n 1, 1)), rfl⟩) ?_
  refine J_callVi (fun r => r.1) (fun r => r.2) (show Dc (Y_X12_sum (d + 1)) 2 (.invokevirtual 192) 3 5 from ⟨(by decide +kernel : decode cX12_sum 2 = .ok (.invokevirtual 192, 3)), rfl⟩) w_m_RX12_192 w_in_X12_product rfl w_se_X12_product (w_cw_X12_product _) (hF_X12_product x0 x1 g) rfl rfl (Nat.le_refl _) (Nat.le_of_ble_eq_true rfl) (Nat.le_of_ble_eq_true rfl) (Nat.le_of_ble_eq_true rfl) (fun r1 => ?_)
  refine J_istore_n [some (.ref x0), some (.int x1), some (.int r1.1), none, none] (show Dc (Y_X12_sum (d + 1)) 5 (.istore_n 2) 1 6 from ⟨(by decide +kernel : decode cX12_sum 5 = .ok (.istore_n 2, 1)), rfl⟩) rfl (Nat.le_of_ble_eq_true rfl) rfl rfl ?_
  exact J_loop (X := X) (K := K) (uc := fun _ => 0) (us := fun _ => 0) (lf := fun s => [some (.ref x0), some (.int x1), some (.int s.1), none, none]) (gf := fun s => s.2) (fun s => j_X12_sum_6 (K := zKl (Y_X12_sum (d + 1)) X 6 (fun _ => 0) (fun _ => 0) (fun s => [some (.ref x0), some (.int x1), some (.int s.1), none, none]) (fun s => s.2) K) hd hF_X12_product N x0 x1 s.1 s.2 h0 (fun s h => h)) N (r1.1, r1.2)

theorem j_X12_product_87 {X : ZX} {F : Nat → Nat → Int32 → ZS → Option (Int32 × ZS)} {d : Nat} (hd : 4 ≤ d) (hF_X12_thing : ∀ (x0 : Nat) (x1 : Int32) (g : ZS) r, F 3 x0 x1 g = some r → zCt (xl X) (xD X) (xB X) yX12_thing (Y_X12_thing d) [.ref x0, .int x1] g (some (.int r.1)) r.2) (N : Nat) (x0 : Nat) (x1 : Int32) (s0 : Int32)  (g : ZS) {K : ((Int32 × ZS) ⊕ (Int32 × ZS)) → Prop} (h0 : ∀ v g, K (.inr (v, g)) → xK X (some (.int v)) g) (hL6 : ∀ s, K (.inl s) → zG (Y_X12_product (d + 1)) X 0 0 6 [some (.ref x0), some (.int x1), some (.int s.1), none, none] [] s.2) : J (Y_X12_product (d + 1)) X 0 0 87 [some (.ref x0), some (.int x1), none, none, none] [.int s0] g (f_X12_product_87 F N x0 x1 s0 g) K := by
  unfold f_X12_product_87
  refine J_istore_n [some (.ref x0), some (.int x1), some (.int s0), none, none] (show Dc (Y_X12_product (d + 1)) 87 (.istore_n 2) 1 88 from ⟨(by decide +kernel : decode cX12_product 87 = .ok (.istore_n 2, 1)), rfl⟩) rfl (Nat.le_of_ble_eq_true rfl) rfl rfl ?_
  refine J_goto (tg := 6) (show Dc (Y_X12_product (d + 1)) 88 (.goto (-82)) 3 91 from ⟨(by decide +kernel : decode cX12_product 88 = .ok (.goto (-82), 3)), rfl⟩) (by decide) ?_
  exact J_leaf (fun h => hL6 (s0, g) h)

theorem j_X12_product_45 {X : ZX} {F : Nat → Nat → Int32 → ZS → Option (Int32 × ZS)} {d : Nat} (hd : 4 ≤ d) (hF_X12_thing : ∀ (x0 : Nat) (x1 : Int32) (g : ZS) r, F 3 x0 x1 g = some r → zCt (xl X) (xD X) (xB X) yX12_thing (Y_X12_thing d) [.ref x0, .int x1] g (some (.int r.1)) r.2) (N : Nat) (x0 : Nat) (x1 : Int32) (x2 : Int32) (s0 : Int32)  (g : ZS) {K : ((Int32 × ZS) ⊕ (Int32 × ZS)) → Prop} (h0 : ∀ v g, K (.inr (v, g)) → xK X (some (.int v)) g) (hL6 : ∀ s, K (.inl s) → zG (Y_X12_product (d + 1)) X 0 0 6 [some (.ref x0), some (.int x1), some (.int s.1), none, none] [] s.2) : J (Y_X12_product (d + 1)) X 0 0 45 [some (.ref x0), some (.int x1), some (.int x2), none, none] [.int s0] g (f_X12_product_45 F N x0 x1 x2 s0 g) K := by
  unfold f_X12_product_45
  refine J_istore_n [some (.ref x0), some (.int x1), some (.int x2), some (.int s0), none] (show Dc (Y_X12_product (d + 1)) 45 (.istore_n 3) 1 46 from ⟨(by decide +kernel : decode cX12_product 45 = .ok (.istore_n 3, 1)), rfl⟩) rfl (Nat.le_of_ble_eq_true rfl) rfl rfl ?_
  refine J_aload_n rfl rfl (show Dc (Y_X12_product (d + 1)) 46 (.aload_n 0) 1 47 from ⟨(by decide +kernel : decode cX12_product 46 = .ok (.aload_n 0, 1)), rfl⟩) ?_
  refine J_dup rfl (show Dc (Y_X12_product (d + 1)) 47 (.dup) 1 48 from ⟨(by decide +kernel : decode cX12_product 47 = .ok (.dup, 1)), rfl⟩) ?_
  refine J_getI (show Dc (Y_X12_product (d + 1)) 48 (.getfield 135) 3 51 from ⟨(by decide +kernel : decode cX12_product 48 = .ok (.getfield 135, 3)), rfl⟩) w_f_RX12_135 rfl (fun v1 => ?_)
  refine J_iconst (1 : Int32) rfl (show Dc (Y_X12_product (d + 1)) 51 (.iconst 1) 1 52 from ⟨(by decide +kernel : decode cX12_product 51 = .ok (.iconst 1, 1)), rfl⟩) ?_
  refine J_iadd (show Dc (Y_X12_product (d + 1)) 52 (.iadd) 1 53 from ⟨(by decide +kernel : decode cX12_product 52 = .ok (.iadd, 1)), rfl⟩) ?_
  refine J_putI (show Dc (Y_X12_product (d + 1)) 53 (.putfield 135) 3 56 from ⟨(by decide +kernel : decode cX12_product 53 = .ok (.putfield 135, 3)), rfl⟩) w_f_RX12_135 rfl rfl (fun g2 => ?_) (fun h => by cases h)
  refine J_aload_n rfl rfl (show Dc (Y_X12_product (d + 1)) 56 (.aload_n 0) 1 57 from ⟨(by decide +kernel : decode cX12_product 56 = .ok (.aload_n 0, 1)), rfl⟩) ?_
  refine J_iload_n rfl rfl (show Dc (Y_X12_product (d + 1)) 57 (.iload_n 1) 1 58 from ⟨(by decide +kernel : decode cX12_product 57 = .ok (.iload_n 1, 1)), rfl⟩) ?_
  refine J_callVi (fun r => r.1) (fun r => r.2) (show Dc (Y_X12_product (d + 1)) 58 (.invokevirtual 195) 3 61 from ⟨(by decide +kernel : decode cX12_product 58 = .ok (.invokevirtual 195, 3)), rfl⟩) w_m_RX12_195 w_in_X12_thing rfl w_se_X12_thing (w_cw_X12_thing _) (hF_X12_thing x0 x1 g2) rfl rfl (Nat.le_refl _) (Nat.le_of_ble_eq_true rfl) (Nat.le_of_ble_eq_true rfl) (Nat.le_of_ble_eq_true rfl) (fun r3 => ?_)
  refine J_istore [some (.ref x0), some (.int x1), some (.int x2), some (.int s0), some (.int r3.1)] (show Dc (Y_X12_product (d + 1)) 61 (.istore 4) 2 63 from ⟨(by decide +kernel : decode cX12_product 61 = .ok (.istore 4, 2)), rfl⟩) (Nat.le_of_ble_eq_true rfl) rfl rfl ?_
  refine J_iload_n rfl rfl (show Dc (Y_X12_product (d + 1)) 63 (.iload_n 3) 1 64 from ⟨(by decide +kernel : decode cX12_product 63 = .ok (.iload_n 3, 1)), rfl⟩) ?_
  refine J_if_eq (tg := 74) (show Dc (Y_X12_product (d + 1)) 64 (.ifCond .eq 10) 3 67 from ⟨(by decide +kernel : decode cX12_product 64 = .ok (.ifCond .eq 10, 3)), rfl⟩) (by decide) (fun h => ?_) (fun h => ?_)
  · refine J_iload rfl (show Dc (Y_X12_product (d + 1)) 74 (.iload 4) 2 76 from ⟨(by decide +kernel : decode cX12_product 74 = .ok (.iload 4, 2)), rfl⟩) ?_
    refine J_if_ne (tg := 83) (show Dc (Y_X12_product (d + 1)) 76 (.ifCond .ne 7) 3 79 from ⟨(by decide +kernel : decode cX12_product 76 = .ok (.ifCond .ne 7, 3)), rfl⟩) (by decide) (fun h => ?_) (fun h => ?_)
    · refine J_iload_n rfl rfl (show Dc (Y_X12_product (d + 1)) 83 (.iload_n 2) 1 84 from ⟨(by decide +kernel : decode cX12_product 83 = .ok (.iload_n 2, 1)), rfl⟩) ?_
      refine J_iload rfl (show Dc (Y_X12_product (d + 1)) 84 (.iload 4) 2 86 from ⟨(by decide +kernel : decode cX12_product 84 = .ok (.iload 4, 2)), rfl⟩) ?_
      refine J_idiv (show Dc (Y_X12_product (d + 1)) 86 (.idiv) 1 87 from ⟨(by decide +kernel : decode cX12_product 86 = .ok (.idiv, 1)), rfl⟩) ?_
      refine J_mask [true, true, false, false, false] ?_
      exact j_X12_product_87 hd hF_X12_thing N x0 x1 (x2 / r3.1) r3.2 h0 hL6
    · refine J_iconst (0 : Int32) rfl (show Dc (Y_X12_product (d + 1)) 79 (.iconst 0) 1 80 from ⟨(by decide +kernel : decode cX12_product 79 = .ok (.iconst 0, 1)), rfl⟩) ?_
      refine J_goto (tg := 87) (show Dc (Y_X12_product (d + 1)) 80 (.goto 7) 3 83 from ⟨(by decide +kernel : decode cX12_product 80 = .ok (.goto 7, 3)), rfl⟩) (by decide) ?_
      refine J_mask [true, true, false, false, false] ?_
      exact j_X12_product_87 hd hF_X12_thing N x0 x1 (0 : Int32) r3.2 h0 hL6
  · refine J_iload_n rfl rfl (show Dc (Y_X12_product (d + 1)) 67 (.iload_n 2) 1 68 from ⟨(by decide +kernel : decode cX12_product 67 = .ok (.iload_n 2, 1)), rfl⟩) ?_
    refine J_iload rfl (show Dc (Y_X12_product (d + 1)) 68 (.iload 4) 2 70 from ⟨(by decide +kernel : decode cX12_product 68 = .ok (.iload 4, 2)), rfl⟩) ?_
    refine J_imul (show Dc (Y_X12_product (d + 1)) 70 (.imul) 1 71 from ⟨(by decide +kernel : decode cX12_product 70 = .ok (.imul, 1)), rfl⟩) ?_
    refine J_goto (tg := 87) (show Dc (Y_X12_product (d + 1)) 71 (.goto 16) 3 74 from ⟨(by decide +kernel : decode cX12_product 71 = .ok (.goto 16, 3)), rfl⟩) (by decide) ?_
    refine J_mask [true, true, false, false, false] ?_
    exact j_X12_product_87 hd hF_X12_thing N x0 x1 (x2 * r3.1) r3.2 h0 hL6

theorem j_X12_product_31 {X : ZX} {F : Nat → Nat → Int32 → ZS → Option (Int32 × ZS)} {d : Nat} (hd : 4 ≤ d) (hF_X12_thing : ∀ (x0 : Nat) (x1 : Int32) (g : ZS) r, F 3 x0 x1 g = some r → zCt (xl X) (xD X) (xB X) yX12_thing (Y_X12_thing d) [.ref x0, .int x1] g (some (.int r.1)) r.2) (N : Nat) (x0 : Nat) (x1 : Int32) (x2 : Int32)   (g : ZS) {K : ((Int32 × ZS) ⊕ (Int32 × ZS)) → Prop} (h0 : ∀ v g, K (.inr (v, g)) → xK X (some (.int v)) g) (hL6 : ∀ s, K (.inl s) → zG (Y_X12_product (d + 1)) X 0 0 6 [some (.ref x0), some (.int x1), some (.int s.1), none, none] [] s.2) : J (Y_X12_product (d + 1)) X 0 0 31 [some (.ref x0), some (.int x1), some (.int x2), none, none] [] g (f_X12_product_31 F N x0 x1 x2 g) K := by
  unfold f_X12_product_31
  refine J_aload_n rfl rfl (show Dc (Y_X12_product (d + 1)) 31 (.aload_n 0) 1 32 from ⟨(by decide +kernel : decode cX12_product 31 = .ok (.aload_n 0, 1)), rfl⟩) ?_
  refine J_callVi (fun r => r) (fun _ => g) (show Dc (Y_X12_product (d + 1)) 32 (.invokevirtual 149) 3 35 from ⟨(by decide +kernel : decode cX12_product 32 = .ok (.invokevirtual 149, 3)), rfl⟩) w_m_RX12_149 w_in_X12_here rfl w_se_X12_here w_cw_X12_here (c_X12_here x0 g) rfl rfl (show 1 + 1 ≤ d + 1 by omega) (Nat.le_of_ble_eq_true rfl) (Nat.le_of_ble_eq_true rfl) (Nat.le_of_ble_eq_true rfl) (fun v1 => ?_)
  refine J_bipush (42 : Int32) rfl (show Dc (Y_X12_product (d + 1)) 35 (.bipush 42) 2 37 from ⟨(by decide +kernel : decode cX12_product 35 = .ok (.bipush 42, 2)), rfl⟩) ?_
  refine J_icmp_ne (tg := 44) (show Dc (Y_X12_product (d + 1)) 37 (.if_icmp .ne 7) 3 40 from ⟨(by decide +kernel : decode cX12_product 37 = .ok (.if_icmp .ne 7, 3)), rfl⟩) (by decide) (fun h => ?_) (fun h => ?_)
  · refine J_iconst (0 : Int32) rfl (show Dc (Y_X12_product (d + 1)) 44 (.iconst 0) 1 45 from ⟨(by decide +kernel : decode cX12_product 44 = .ok (.iconst 0, 1)), rfl⟩) ?_
    exact j_X12_product_45 hd hF_X12_thing N x0 x1 x2 (0 : Int32) g h0 hL6
  · refine J_iconst (1 : Int32) rfl (show Dc (Y_X12_product (d + 1)) 40 (.iconst 1) 1 41 from ⟨(by decide +kernel : decode cX12_product 40 = .ok (.iconst 1, 1)), rfl⟩) ?_
    refine J_goto (tg := 45) (show Dc (Y_X12_product (d + 1)) 41 (.goto 4) 3 44 from ⟨(by decide +kernel : decode cX12_product 41 = .ok (.goto 4, 3)), rfl⟩) (by decide) ?_
    exact j_X12_product_45 hd hF_X12_thing N x0 x1 x2 (1 : Int32) g h0 hL6

theorem j_X12_product_91 {X : ZX} {F : Nat → Nat → Int32 → ZS → Option (Int32 × ZS)} {d : Nat} (hd : 4 ≤ d) (hF_X12_thing : ∀ (x0 : Nat) (x1 : Int32) (g : ZS) r, F 3 x0 x1 g = some r → zCt (xl X) (xD X) (xB X) yX12_thing (Y_X12_thing d) [.ref x0, .int x1] g (some (.int r.1)) r.2) (N : Nat) (x2 : Int32)   (g : ZS) {K : (Int32 × ZS) → Prop} (h0 : ∀ v g, K (v, g) → xK X (some (.int v)) g) : J (Y_X12_product (d + 1)) X 0 0 91 [none, none, some (.int x2), none, none] [] g (f_X12_product_91 F N x2 g) K := by
  unfold f_X12_product_91
  refine J_iload_n rfl rfl (show Dc (Y_X12_product (d + 1)) 91 (.iload_n 2) 1 92 from ⟨(by decide +kernel : decode cX12_product 91 = .ok (.iload_n 2, 1)), rfl⟩) ?_
  exact J_reti (show Dc (Y_X12_product (d + 1)) 92 (.ireturn) 1 93 from ⟨(by decide +kernel : decode cX12_product 92 = .ok (.ireturn, 1)), rfl⟩) rfl (h0 _ _) (Nat.le_of_ble_eq_true rfl) (Nat.le_of_ble_eq_true rfl)

theorem j_X12_product_6 {X : ZX} {F : Nat → Nat → Int32 → ZS → Option (Int32 × ZS)} {d : Nat} (hd : 4 ≤ d) (hF_X12_thing : ∀ (x0 : Nat) (x1 : Int32) (g : ZS) r, F 3 x0 x1 g = some r → zCt (xl X) (xD X) (xB X) yX12_thing (Y_X12_thing d) [.ref x0, .int x1] g (some (.int r.1)) r.2) (N : Nat) (x0 : Nat) (x1 : Int32) (x2 : Int32)   (g : ZS) {K : ((Int32 × ZS) ⊕ (Int32 × ZS)) → Prop} (h0 : ∀ v g, K (.inr (v, g)) → xK X (some (.int v)) g) (hL6 : ∀ s, K (.inl s) → zG (Y_X12_product (d + 1)) X 0 0 6 [some (.ref x0), some (.int x1), some (.int s.1), none, none] [] s.2) : J (Y_X12_product (d + 1)) X 0 0 6 [some (.ref x0), some (.int x1), some (.int x2), none, none] [] g (f_X12_product_6 F N x0 x1 x2 g) K := by
  unfold f_X12_product_6
  refine J_aload_n rfl rfl (show Dc (Y_X12_product (d + 1)) 6 (.aload_n 0) 1 7 from ⟨(by decide +kernel : decode cX12_product 6 = .ok (.aload_n 0, 1)), rfl⟩) ?_
  refine J_callVi (fun r => r) (fun _ => g) (show Dc (Y_X12_product (d + 1)) 7 (.invokevirtual 145) 3 10 from ⟨(by decide +kernel : decode cX12_product 7 = .ok (.invokevirtual 145, 3)), rfl⟩) w_m_RX12_145 w_in_X12_fine rfl w_se_X12_fine w_cw_X12_fine (c_X12_fine x0 g) rfl rfl (show 1 + 1 ≤ d + 1 by omega) (Nat.le_of_ble_eq_true rfl) (Nat.le_of_ble_eq_true rfl) (Nat.le_of_ble_eq_true rfl) (fun v1 => ?_)
  refine J_if_eq (tg := 91) (show Dc (Y_X12_product (d + 1)) 10 (.ifCond .eq 81) 3 13 from ⟨(by decide +kernel : decode cX12_product 10 = .ok (.ifCond .eq 81, 3)), rfl⟩) (by decide) (fun h => ?_) (fun h => ?_)
  · refine J_mask [false, false, true, false, false] ?_
    refine J_map (f := Sum.inr) (fun _ h => h) ?_
    exact j_X12_product_91 (K := fun o => K (.inr o)) hd hF_X12_thing N x2 g h0
  · refine J_aload_n rfl rfl (show Dc (Y_X12_product (d + 1)) 13 (.aload_n 0) 1 14 from ⟨(by decide +kernel : decode cX12_product 13 = .ok (.aload_n 0, 1)), rfl⟩) ?_
    refine J_callVi (fun r => r) (fun _ => g) (show Dc (Y_X12_product (d + 1)) 14 (.invokevirtual 149) 3 17 from ⟨(by decide +kernel : decode cX12_product 14 = .ok (.invokevirtual 149, 3)), rfl⟩) w_m_RX12_149 w_in_X12_here rfl w_se_X12_here w_cw_X12_here (c_X12_here x0 g) rfl rfl (show 1 + 1 ≤ d + 1 by omega) (Nat.le_of_ble_eq_true rfl) (Nat.le_of_ble_eq_true rfl) (Nat.le_of_ble_eq_true rfl) (fun v2 => ?_)
    refine J_bipush (42 : Int32) rfl (show Dc (Y_X12_product (d + 1)) 17 (.bipush 42) 2 19 from ⟨(by decide +kernel : decode cX12_product 17 = .ok (.bipush 42, 2)), rfl⟩) ?_
    refine J_icmp_eq (tg := 31) (show Dc (Y_X12_product (d + 1)) 19 (.if_icmp .eq 12) 3 22 from ⟨(by decide +kernel : decode cX12_product 19 = .ok (.if_icmp .eq 12, 3)), rfl⟩) (by decide) (fun h => ?_) (fun h => ?_)
    · exact j_X12_product_31 hd hF_X12_thing N x0 x1 x2 g h0 hL6
    · refine J_aload_n rfl rfl (show Dc (Y_X12_product (d + 1)) 22 (.aload_n 0) 1 23 from ⟨(by decide +kernel : decode cX12_product 22 = .ok (.aload_n 0, 1)), rfl⟩) ?_
      refine J_callVi (fun r => r) (fun _ => g) (show Dc (Y_X12_product (d + 1)) 23 (.invokevirtual 149) 3 26 from ⟨(by decide +kernel : decode cX12_product 23 = .ok (.invokevirtual 149, 3)), rfl⟩) w_m_RX12_149 w_in_X12_here rfl w_se_X12_here w_cw_X12_here (c_X12_here x0 g) rfl rfl (show 1 + 1 ≤ d + 1 by omega) (Nat.le_of_ble_eq_true rfl) (Nat.le_of_ble_eq_true rfl) (Nat.le_of_ble_eq_true rfl) (fun v3 => ?_)
      refine J_bipush (47 : Int32) rfl (show Dc (Y_X12_product (d + 1)) 26 (.bipush 47) 2 28 from ⟨(by decide +kernel : decode cX12_product 26 = .ok (.bipush 47, 2)), rfl⟩) ?_
      refine J_icmp_ne (tg := 91) (show Dc (Y_X12_product (d + 1)) 28 (.if_icmp .ne 63) 3 31 from ⟨(by decide +kernel : decode cX12_product 28 = .ok (.if_icmp .ne 63, 3)), rfl⟩) (by decide) (fun h => ?_) (fun h => ?_)
      · refine J_mask [false, false, true, false, false] ?_
        refine J_map (f := Sum.inr) (fun _ h => h) ?_
        exact j_X12_product_91 (K := fun o => K (.inr o)) hd hF_X12_thing N x2 g h0
      · exact j_X12_product_31 hd hF_X12_thing N x0 x1 x2 g h0 hL6

theorem j_X12_product {X : ZX} {F : Nat → Nat → Int32 → ZS → Option (Int32 × ZS)} {d : Nat} (hd : 4 ≤ d) (hF_X12_thing : ∀ (x0 : Nat) (x1 : Int32) (g : ZS) r, F 3 x0 x1 g = some r → zCt (xl X) (xD X) (xB X) yX12_thing (Y_X12_thing d) [.ref x0, .int x1] g (some (.int r.1)) r.2) (N : Nat) (x0 : Nat) (x1 : Int32)   (g : ZS) {K : (Int32 × ZS) → Prop} (h0 : ∀ v g, K (v, g) → xK X (some (.int v)) g) : J (Y_X12_product (d + 1)) X 0 0 0 [some (.ref x0), some (.int x1), none, none, none] [] g (f_X12_product F N x0 x1 g) K := by
  unfold f_X12_product
  refine J_aload_n rfl rfl (show Dc (Y_X12_product (d + 1)) 0 (.aload_n 0) 1 1 from ⟨(by decide +kernel : decode cX12_product 0 = .ok (.aload_n 0, 1)), rfl⟩) ?_
  refine J_iload_n rfl rfl (show Dc (Y_X12_product (d + 1)) 1 (.iload_n 1) 1 2 from ⟨(by decide +kernel : decode cX12_product 1 = .ok (.iload_n 1, 1)), rfl⟩) ?_
  refine J_callVi (fun r => r.1) (fun r => r.2) (show Dc (Y_X12_product (d + 1)) 2 (.invokevirtual 195) 3 5 from ⟨(by decide +kernel : decode cX12_product 2 = .ok (.invokevirtual 195, 3)), rfl⟩) w_m_RX12_195 w_in_X12_thing rfl w_se_X12_thing (w_cw_X12_thing _) (hF_X12_thing x0 x1 g) rfl rfl (Nat.le_refl _) (Nat.le_of_ble_eq_true rfl) (Nat.le_of_ble_eq_true rfl) (Nat.le_of_ble_eq_true rfl) (fun r1 => ?_)
  refine J_istore_n [some (.ref x0), some (.int x1), some (.int r1.1), none, none] (show Dc (Y_X12_product (d + 1)) 5 (.istore_n 2) 1 6 from ⟨(by decide +kernel : decode cX12_product 5 = .ok (.istore_n 2, 1)), rfl⟩) rfl (Nat.le_of_ble_eq_true rfl) rfl rfl ?_
  exact J_loop (X := X) (K := K) (uc := fun _ => 0) (us := fun _ => 0) (lf := fun s => [some (.ref x0), some (.int x1), some (.int s.1), none, none]) (gf := fun s => s.2) (fun s => j_X12_product_6 (K := zKl (Y_X12_product (d + 1)) X 6 (fun _ => 0) (fun _ => 0) (fun s => [some (.ref x0), some (.int x1), some (.int s.1), none, none]) (fun s => s.2) K) hd hF_X12_thing N x0 x1 s.1 s.2 h0 (fun s h => h)) N (r1.1, r1.2)

theorem j_X12_thing_132 {X : ZX} {F : Nat → Nat → Int32 → ZS → Option (Int32 × ZS)} {d : Nat} (hd : 4 ≤ d) (hF_X12_held : ∀ (x0 : Nat) (x1 : Int32) (g : ZS) r, F 0 x0 x1 g = some r → zCt (xl X) (xD X) (xB X) yX12_held (Y_X12_held d) [.ref x0, .int x1] g (some (.int r.1)) r.2) (hF_X12_thing : ∀ (x0 : Nat) (x1 : Int32) (g : ZS) r, F 3 x0 x1 g = some r → zCt (xl X) (xD X) (xB X) yX12_thing (Y_X12_thing d) [.ref x0, .int x1] g (some (.int r.1)) r.2) (N : Nat)  (s0 : Int32)  (g : ZS) {K : (Int32 × ZS) → Prop} (h0 : ∀ v g, K (v, g) → xK X (some (.int v)) g) : J (Y_X12_thing (d + 1)) X 0 0 132 [none, none, none, none] [.int s0] g (f_X12_thing_132 F N s0 g) K := by
  unfold f_X12_thing_132
  exact J_reti (show Dc (Y_X12_thing (d + 1)) 132 (.ireturn) 1 133 from ⟨(by decide +kernel : decode cX12_thing 132 = .ok (.ireturn, 1)), rfl⟩) rfl (h0 _ _) (Nat.le_of_ble_eq_true rfl) (Nat.le_of_ble_eq_true rfl)

theorem j_X12_thing_67 {X : ZX} {F : Nat → Nat → Int32 → ZS → Option (Int32 × ZS)} {d : Nat} (hd : 4 ≤ d) (hF_X12_held : ∀ (x0 : Nat) (x1 : Int32) (g : ZS) r, F 0 x0 x1 g = some r → zCt (xl X) (xD X) (xB X) yX12_held (Y_X12_held d) [.ref x0, .int x1] g (some (.int r.1)) r.2) (hF_X12_thing : ∀ (x0 : Nat) (x1 : Int32) (g : ZS) r, F 3 x0 x1 g = some r → zCt (xl X) (xD X) (xB X) yX12_thing (Y_X12_thing d) [.ref x0, .int x1] g (some (.int r.1)) r.2) (N : Nat) (x0 : Nat) (x2 : Int32)   (g : ZS) {K : (Int32 × ZS) → Prop} (h0 : ∀ v g, K (v, g) → xK X (some (.int v)) g) : J (Y_X12_thing (d + 1)) X 0 0 67 [some (.ref x0), none, some (.int x2), none] [] g (f_X12_thing_67 F N x0 x2 g) K := by
  unfold f_X12_thing_67
  refine J_iload_n rfl rfl (show Dc (Y_X12_thing (d + 1)) 67 (.iload_n 2) 1 68 from ⟨(by decide +kernel : decode cX12_thing 67 = .ok (.iload_n 2, 1)), rfl⟩) ?_
  refine J_bipush (48 : Int32) rfl (show Dc (Y_X12_thing (d + 1)) 68 (.bipush 48) 2 70 from ⟨(by decide +kernel : decode cX12_thing 68 = .ok (.bipush 48, 2)), rfl⟩) ?_
  refine J_bipush (57 : Int32) rfl (show Dc (Y_X12_thing (d + 1)) 70 (.bipush 57) 2 72 from ⟨(by decide +kernel : decode cX12_thing 70 = .ok (.bipush 57, 2)), rfl⟩) ?_
  refine J_callSi (fun r => r) (fun _ => g) (show Dc (Y_X12_thing (d + 1)) 72 (.invokestatic 119) 3 75 from ⟨(by decide +kernel : decode cX12_thing 72 = .ok (.invokestatic 119, 3)), rfl⟩) w_m_RX12_119 w_st_X12_in w_cw_X12_in (c_X12_in x2 (48 : Int32) (57 : Int32) g) rfl rfl (show 1 + 1 ≤ d + 1 by omega) (Nat.le_of_ble_eq_true rfl) (Nat.le_of_ble_eq_true rfl) (Nat.le_of_ble_eq_true rfl) (fun v1 => ?_)
  refine J_if_eq (tg := 84) (show Dc (Y_X12_thing (d + 1)) 75 (.ifCond .eq 9) 3 78 from ⟨(by decide +kernel : decode cX12_thing 75 = .ok (.ifCond .eq 9, 3)), rfl⟩) (by decide) (fun h => ?_) (fun h => ?_)
  · refine J_iload_n rfl rfl (show Dc (Y_X12_thing (d + 1)) 84 (.iload_n 2) 1 85 from ⟨(by decide +kernel : decode cX12_thing 84 = .ok (.iload_n 2, 1)), rfl⟩) ?_
    refine J_callSi (fun r => r) (fun _ => g) (show Dc (Y_X12_thing (d + 1)) 85 (.invokestatic 208) 3 88 from ⟨(by decide +kernel : decode cX12_thing 85 = .ok (.invokestatic 208, 3)), rfl⟩) w_m_RX12_208 w_st_X12_letterOf w_cw_X12_letterOf (c_X12_letterOf x2 g) rfl rfl (show 1 + 1 ≤ d + 1 by omega) (Nat.le_of_ble_eq_true rfl) (Nat.le_of_ble_eq_true rfl) (Nat.le_of_ble_eq_true rfl) (fun v2 => ?_)
    refine J_iconst (-1 : Int32) rfl (show Dc (Y_X12_thing (d + 1)) 88 (.iconst (-1)) 1 89 from ⟨(by decide +kernel : decode cX12_thing 88 = .ok (.iconst (-1), 1)), rfl⟩) ?_
    refine J_icmp_ne (tg := 102) (show Dc (Y_X12_thing (d + 1)) 89 (.if_icmp .ne 13) 3 92 from ⟨(by decide +kernel : decode cX12_thing 89 = .ok (.if_icmp .ne 13, 3)), rfl⟩) (by decide) (fun h => ?_) (fun h => ?_)
    · refine J_aload_n rfl rfl (show Dc (Y_X12_thing (d + 1)) 102 (.aload_n 0) 1 103 from ⟨(by decide +kernel : decode cX12_thing 102 = .ok (.aload_n 0, 1)), rfl⟩) ?_
      refine J_dup rfl (show Dc (Y_X12_thing (d + 1)) 103 (.dup) 1 104 from ⟨(by decide +kernel : decode cX12_thing 103 = .ok (.dup, 1)), rfl⟩) ?_
      refine J_getI (show Dc (Y_X12_thing (d + 1)) 104 (.getfield 135) 3 107 from ⟨(by decide +kernel : decode cX12_thing 104 = .ok (.getfield 135, 3)), rfl⟩) w_f_RX12_135 rfl (fun v3 => ?_)
      refine J_iconst (1 : Int32) rfl (show Dc (Y_X12_thing (d + 1)) 107 (.iconst 1) 1 108 from ⟨(by decide +kernel : decode cX12_thing 107 = .ok (.iconst 1, 1)), rfl⟩) ?_
      refine J_iadd (show Dc (Y_X12_thing (d + 1)) 108 (.iadd) 1 109 from ⟨(by decide +kernel : decode cX12_thing 108 = .ok (.iadd, 1)), rfl⟩) ?_
      refine J_putI (show Dc (Y_X12_thing (d + 1)) 109 (.putfield 135) 3 112 from ⟨(by decide +kernel : decode cX12_thing 109 = .ok (.putfield 135, 3)), rfl⟩) w_f_RX12_135 rfl rfl (fun g4 => ?_) (fun h => by cases h)
      refine J_aload_n rfl rfl (show Dc (Y_X12_thing (d + 1)) 112 (.aload_n 0) 1 113 from ⟨(by decide +kernel : decode cX12_thing 112 = .ok (.aload_n 0, 1)), rfl⟩) ?_
      refine J_getI (show Dc (Y_X12_thing (d + 1)) 113 (.getfield 211) 3 116 from ⟨(by decide +kernel : decode cX12_thing 113 = .ok (.getfield 211, 3)), rfl⟩) w_f_RX12_211 rfl (fun v5 => ?_)
      refine J_if_eq (tg := 131) (show Dc (Y_X12_thing (d + 1)) 116 (.ifCond .eq 15) 3 119 from ⟨(by decide +kernel : decode cX12_thing 116 = .ok (.ifCond .eq 15, 3)), rfl⟩) (by decide) (fun h => ?_) (fun h => ?_)
      · refine J_iconst (0 : Int32) rfl (show Dc (Y_X12_thing (d + 1)) 131 (.iconst 0) 1 132 from ⟨(by decide +kernel : decode cX12_thing 131 = .ok (.iconst 0, 1)), rfl⟩) ?_
        refine J_mask [false, false, false, false] ?_
        exact j_X12_thing_132 hd hF_X12_held hF_X12_thing N (0 : Int32) g4 h0
      · refine J_aload_n rfl rfl (show Dc (Y_X12_thing (d + 1)) 119 (.aload_n 0) 1 120 from ⟨(by decide +kernel : decode cX12_thing 119 = .ok (.aload_n 0, 1)), rfl⟩) ?_
        refine J_getR (show Dc (Y_X12_thing (d + 1)) 120 (.getfield 42) 3 123 from ⟨(by decide +kernel : decode cX12_thing 120 = .ok (.getfield 42, 3)), rfl⟩) w_f_RX12_42 rfl (fun v6 => ?_)
        refine J_iload_n rfl rfl (show Dc (Y_X12_thing (d + 1)) 123 (.iload_n 2) 1 124 from ⟨(by decide +kernel : decode cX12_thing 123 = .ok (.iload_n 2, 1)), rfl⟩) ?_
        refine J_callSi (fun r => r) (fun _ => g4) (show Dc (Y_X12_thing (d + 1)) 124 (.invokestatic 208) 3 127 from ⟨(by decide +kernel : decode cX12_thing 124 = .ok (.invokestatic 208, 3)), rfl⟩) w_m_RX12_208 w_st_X12_letterOf w_cw_X12_letterOf (c_X12_letterOf x2 g4) rfl rfl (show 1 + 1 ≤ d + 1 by omega) (Nat.le_of_ble_eq_true rfl) (Nat.le_of_ble_eq_true rfl) (Nat.le_of_ble_eq_true rfl) (fun v7 => ?_)
        refine J_iald (show Dc (Y_X12_thing (d + 1)) 127 (.iaload) 1 128 from ⟨(by decide +kernel : decode cX12_thing 127 = .ok (.iaload, 1)), rfl⟩) (fun v8 => ?_)
        refine J_goto (tg := 132) (show Dc (Y_X12_thing (d + 1)) 128 (.goto 4) 3 131 from ⟨(by decide +kernel : decode cX12_thing 128 = .ok (.goto 4, 3)), rfl⟩) (by decide) ?_
        refine J_mask [false, false, false, false] ?_
        exact j_X12_thing_132 hd hF_X12_held hF_X12_thing N v8 g4 h0
    · refine J_aload_n rfl rfl (show Dc (Y_X12_thing (d + 1)) 92 (.aload_n 0) 1 93 from ⟨(by decide +kernel : decode cX12_thing 92 = .ok (.aload_n 0, 1)), rfl⟩) ?_
      refine J_aload_n rfl rfl (show Dc (Y_X12_thing (d + 1)) 93 (.aload_n 0) 1 94 from ⟨(by decide +kernel : decode cX12_thing 93 = .ok (.aload_n 0, 1)), rfl⟩) ?_
      refine J_getI (show Dc (Y_X12_thing (d + 1)) 94 (.getfield 135) 3 97 from ⟨(by decide +kernel : decode cX12_thing 94 = .ok (.getfield 135, 3)), rfl⟩) w_f_RX12_135 rfl (fun v9 => ?_)
      refine J_callVv (fun r => r) (show Dc (Y_X12_thing (d + 1)) 97 (.invokevirtual 157) 3 100 from ⟨(by decide +kernel : decode cX12_thing 97 = .ok (.invokevirtual 157, 3)), rfl⟩) w_m_RX12_157 w_in_X12_fault rfl w_se_X12_fault w_cw_X12_fault (c_X12_fault x0 v9 g) rfl rfl (show 2 + 1 ≤ d + 1 by omega) (Nat.le_of_ble_eq_true rfl) (Nat.le_of_ble_eq_true rfl) (Nat.le_of_ble_eq_true rfl) (fun g10 => ?_)
      refine J_iconst (0 : Int32) rfl (show Dc (Y_X12_thing (d + 1)) 100 (.iconst 0) 1 101 from ⟨(by decide +kernel : decode cX12_thing 100 = .ok (.iconst 0, 1)), rfl⟩) ?_
      exact J_reti (show Dc (Y_X12_thing (d + 1)) 101 (.ireturn) 1 102 from ⟨(by decide +kernel : decode cX12_thing 101 = .ok (.ireturn, 1)), rfl⟩) rfl (h0 _ _) (Nat.le_of_ble_eq_true rfl) (Nat.le_of_ble_eq_true rfl)
  · refine J_aload_n rfl rfl (show Dc (Y_X12_thing (d + 1)) 78 (.aload_n 0) 1 79 from ⟨(by decide +kernel : decode cX12_thing 78 = .ok (.aload_n 0, 1)), rfl⟩) ?_
    refine J_iconst (3 : Int32) rfl (show Dc (Y_X12_thing (d + 1)) 79 (.iconst 3) 1 80 from ⟨(by decide +kernel : decode cX12_thing 79 = .ok (.iconst 3, 1)), rfl⟩) ?_
    refine J_callVi (fun r => r.1) (fun r => r.2) (show Dc (Y_X12_thing (d + 1)) 80 (.invokevirtual 205) 3 83 from ⟨(by decide +kernel : decode cX12_thing 80 = .ok (.invokevirtual 205, 3)), rfl⟩) w_m_RX12_205 w_in_X12_number rfl w_se_X12_number w_cw_X12_number (c_X12_number N x0 (3 : Int32) g) rfl rfl (show 4 + 1 ≤ d + 1 by omega) (Nat.le_of_ble_eq_true rfl) (Nat.le_of_ble_eq_true rfl) (Nat.le_of_ble_eq_true rfl) (fun r11 => ?_)
    exact J_reti (show Dc (Y_X12_thing (d + 1)) 83 (.ireturn) 1 84 from ⟨(by decide +kernel : decode cX12_thing 83 = .ok (.ireturn, 1)), rfl⟩) rfl (h0 _ _) (Nat.le_of_ble_eq_true rfl) (Nat.le_of_ble_eq_true rfl)

theorem j_X12_thing {X : ZX} {F : Nat → Nat → Int32 → ZS → Option (Int32 × ZS)} {d : Nat} (hd : 4 ≤ d) (hF_X12_held : ∀ (x0 : Nat) (x1 : Int32) (g : ZS) r, F 0 x0 x1 g = some r → zCt (xl X) (xD X) (xB X) yX12_held (Y_X12_held d) [.ref x0, .int x1] g (some (.int r.1)) r.2) (hF_X12_thing : ∀ (x0 : Nat) (x1 : Int32) (g : ZS) r, F 3 x0 x1 g = some r → zCt (xl X) (xD X) (xB X) yX12_thing (Y_X12_thing d) [.ref x0, .int x1] g (some (.int r.1)) r.2) (N : Nat) (x0 : Nat) (x1 : Int32)   (g : ZS) {K : (Int32 × ZS) → Prop} (h0 : ∀ v g, K (v, g) → xK X (some (.int v)) g) : J (Y_X12_thing (d + 1)) X 0 0 0 [some (.ref x0), some (.int x1), none, none] [] g (f_X12_thing F N x0 x1 g) K := by
  unfold f_X12_thing
  refine J_aload_n rfl rfl (show Dc (Y_X12_thing (d + 1)) 0 (.aload_n 0) 1 1 from ⟨(by decide +kernel : decode cX12_thing 0 = .ok (.aload_n 0, 1)), rfl⟩) ?_
  refine J_bipush (45 : Int32) rfl (show Dc (Y_X12_thing (d + 1)) 1 (.bipush 45) 2 3 from ⟨(by decide +kernel : decode cX12_thing 1 = .ok (.bipush 45, 2)), rfl⟩) ?_
  refine J_callVi (fun r => r.1) (fun r => r.2) (show Dc (Y_X12_thing (d + 1)) 3 (.invokevirtual 153) 3 6 from ⟨(by decide +kernel : decode cX12_thing 3 = .ok (.invokevirtual 153, 3)), rfl⟩) w_m_RX12_153 w_in_X12_passes rfl w_se_X12_passes w_cw_X12_passes (c_X12_passes x0 (45 : Int32) g) rfl rfl (show 2 + 1 ≤ d + 1 by omega) (Nat.le_of_ble_eq_true rfl) (Nat.le_of_ble_eq_true rfl) (Nat.le_of_ble_eq_true rfl) (fun r1 => ?_)
  refine J_if_eq (tg := 16) (show Dc (Y_X12_thing (d + 1)) 6 (.ifCond .eq 10) 3 9 from ⟨(by decide +kernel : decode cX12_thing 6 = .ok (.ifCond .eq 10, 3)), rfl⟩) (by decide) (fun h => ?_) (fun h => ?_)
  · refine J_aload_n rfl rfl (show Dc (Y_X12_thing (d + 1)) 16 (.aload_n 0) 1 17 from ⟨(by decide +kernel : decode cX12_thing 16 = .ok (.aload_n 0, 1)), rfl⟩) ?_
    refine J_callVi (fun r => r) (fun _ => r1.2) (show Dc (Y_X12_thing (d + 1)) 17 (.invokevirtual 145) 3 20 from ⟨(by decide +kernel : decode cX12_thing 17 = .ok (.invokevirtual 145, 3)), rfl⟩) w_m_RX12_145 w_in_X12_fine rfl w_se_X12_fine w_cw_X12_fine (c_X12_fine x0 r1.2) rfl rfl (show 1 + 1 ≤ d + 1 by omega) (Nat.le_of_ble_eq_true rfl) (Nat.le_of_ble_eq_true rfl) (Nat.le_of_ble_eq_true rfl) (fun v2 => ?_)
    refine J_if_ne (tg := 25) (show Dc (Y_X12_thing (d + 1)) 20 (.ifCond .ne 5) 3 23 from ⟨(by decide +kernel : decode cX12_thing 20 = .ok (.ifCond .ne 5, 3)), rfl⟩) (by decide) (fun h => ?_) (fun h => ?_)
    · refine J_aload_n rfl rfl (show Dc (Y_X12_thing (d + 1)) 25 (.aload_n 0) 1 26 from ⟨(by decide +kernel : decode cX12_thing 25 = .ok (.aload_n 0, 1)), rfl⟩) ?_
      refine J_callVi (fun r => r) (fun _ => r1.2) (show Dc (Y_X12_thing (d + 1)) 26 (.invokevirtual 149) 3 29 from ⟨(by decide +kernel : decode cX12_thing 26 = .ok (.invokevirtual 149, 3)), rfl⟩) w_m_RX12_149 w_in_X12_here rfl w_se_X12_here w_cw_X12_here (c_X12_here x0 r1.2) rfl rfl (show 1 + 1 ≤ d + 1 by omega) (Nat.le_of_ble_eq_true rfl) (Nat.le_of_ble_eq_true rfl) (Nat.le_of_ble_eq_true rfl) (fun v3 => ?_)
      refine J_istore_n [some (.ref x0), some (.int x1), some (.int v3), none] (show Dc (Y_X12_thing (d + 1)) 29 (.istore_n 2) 1 30 from ⟨(by decide +kernel : decode cX12_thing 29 = .ok (.istore_n 2, 1)), rfl⟩) rfl (Nat.le_of_ble_eq_true rfl) rfl rfl ?_
      refine J_iload_n rfl rfl (show Dc (Y_X12_thing (d + 1)) 30 (.iload_n 2) 1 31 from ⟨(by decide +kernel : decode cX12_thing 30 = .ok (.iload_n 2, 1)), rfl⟩) ?_
      refine J_bipush (40 : Int32) rfl (show Dc (Y_X12_thing (d + 1)) 31 (.bipush 40) 2 33 from ⟨(by decide +kernel : decode cX12_thing 31 = .ok (.bipush 40, 2)), rfl⟩) ?_
      refine J_icmp_ne (tg := 67) (show Dc (Y_X12_thing (d + 1)) 33 (.if_icmp .ne 34) 3 36 from ⟨(by decide +kernel : decode cX12_thing 33 = .ok (.if_icmp .ne 34, 3)), rfl⟩) (by decide) (fun h => ?_) (fun h => ?_)
      · refine J_mask [true, false, true, false] ?_
        exact j_X12_thing_67 hd hF_X12_held hF_X12_thing N x0 v3 r1.2 h0
      · refine J_iload_n rfl rfl (show Dc (Y_X12_thing (d + 1)) 36 (.iload_n 1) 1 37 from ⟨(by decide +kernel : decode cX12_thing 36 = .ok (.iload_n 1, 1)), rfl⟩) ?_
        refine J_iconst (4 : Int32) rfl (show Dc (Y_X12_thing (d + 1)) 37 (.iconst 4) 1 38 from ⟨(by decide +kernel : decode cX12_thing 37 = .ok (.iconst 4, 1)), rfl⟩) ?_
        refine J_icmp_ge (tg := 67) (show Dc (Y_X12_thing (d + 1)) 38 (.if_icmp .ge 29) 3 41 from ⟨(by decide +kernel : decode cX12_thing 38 = .ok (.if_icmp .ge 29, 3)), rfl⟩) (by decide) (fun h => ?_) (fun h => ?_)
        · refine J_mask [true, false, true, false] ?_
          exact j_X12_thing_67 hd hF_X12_held hF_X12_thing N x0 v3 r1.2 h0
        · refine J_aload_n rfl rfl (show Dc (Y_X12_thing (d + 1)) 41 (.aload_n 0) 1 42 from ⟨(by decide +kernel : decode cX12_thing 41 = .ok (.aload_n 0, 1)), rfl⟩) ?_
          refine J_dup rfl (show Dc (Y_X12_thing (d + 1)) 42 (.dup) 1 43 from ⟨(by decide +kernel : decode cX12_thing 42 = .ok (.dup, 1)), rfl⟩) ?_
          refine J_getI (show Dc (Y_X12_thing (d + 1)) 43 (.getfield 135) 3 46 from ⟨(by decide +kernel : decode cX12_thing 43 = .ok (.getfield 135, 3)), rfl⟩) w_f_RX12_135 rfl (fun v4 => ?_)
          refine J_iconst (1 : Int32) rfl (show Dc (Y_X12_thing (d + 1)) 46 (.iconst 1) 1 47 from ⟨(by decide +kernel : decode cX12_thing 46 = .ok (.iconst 1, 1)), rfl⟩) ?_
          refine J_iadd (show Dc (Y_X12_thing (d + 1)) 47 (.iadd) 1 48 from ⟨(by decide +kernel : decode cX12_thing 47 = .ok (.iadd, 1)), rfl⟩) ?_
          refine J_putI (show Dc (Y_X12_thing (d + 1)) 48 (.putfield 135) 3 51 from ⟨(by decide +kernel : decode cX12_thing 48 = .ok (.putfield 135, 3)), rfl⟩) w_f_RX12_135 rfl rfl (fun g5 => ?_) (fun h => by cases h)
          refine J_aload_n rfl rfl (show Dc (Y_X12_thing (d + 1)) 51 (.aload_n 0) 1 52 from ⟨(by decide +kernel : decode cX12_thing 51 = .ok (.aload_n 0, 1)), rfl⟩) ?_
          refine J_iload_n rfl rfl (show Dc (Y_X12_thing (d + 1)) 52 (.iload_n 1) 1 53 from ⟨(by decide +kernel : decode cX12_thing 52 = .ok (.iload_n 1, 1)), rfl⟩) ?_
          refine J_iconst (1 : Int32) rfl (show Dc (Y_X12_thing (d + 1)) 53 (.iconst 1) 1 54 from ⟨(by decide +kernel : decode cX12_thing 53 = .ok (.iconst 1, 1)), rfl⟩) ?_
          refine J_iadd (show Dc (Y_X12_thing (d + 1)) 54 (.iadd) 1 55 from ⟨(by decide +kernel : decode cX12_thing 54 = .ok (.iadd, 1)), rfl⟩) ?_
          refine J_callVi (fun r => r.1) (fun r => r.2) (show Dc (Y_X12_thing (d + 1)) 55 (.invokevirtual 198) 3 58 from ⟨(by decide +kernel : decode cX12_thing 55 = .ok (.invokevirtual 198, 3)), rfl⟩) w_m_RX12_198 w_in_X12_held rfl w_se_X12_held (w_cw_X12_held _) (hF_X12_held x0 (x1 + (1 : Int32)) g5) rfl rfl (Nat.le_refl _) (Nat.le_of_ble_eq_true rfl) (Nat.le_of_ble_eq_true rfl) (Nat.le_of_ble_eq_true rfl) (fun r6 => ?_)
          refine J_istore_n [some (.ref x0), some (.int x1), some (.int v3), some (.int r6.1)] (show Dc (Y_X12_thing (d + 1)) 58 (.istore_n 3) 1 59 from ⟨(by decide +kernel : decode cX12_thing 58 = .ok (.istore_n 3, 1)), rfl⟩) rfl (Nat.le_of_ble_eq_true rfl) rfl rfl ?_
          refine J_aload_n rfl rfl (show Dc (Y_X12_thing (d + 1)) 59 (.aload_n 0) 1 60 from ⟨(by decide +kernel : decode cX12_thing 59 = .ok (.aload_n 0, 1)), rfl⟩) ?_
          refine J_bipush (41 : Int32) rfl (show Dc (Y_X12_thing (d + 1)) 60 (.bipush 41) 2 62 from ⟨(by decide +kernel : decode cX12_thing 60 = .ok (.bipush 41, 2)), rfl⟩) ?_
          refine J_callVv (fun r => r) (show Dc (Y_X12_thing (d + 1)) 62 (.invokevirtual 201) 3 65 from ⟨(by decide +kernel : decode cX12_thing 62 = .ok (.invokevirtual 201, 3)), rfl⟩) w_m_RX12_201 w_in_X12_need rfl w_se_X12_need w_cw_X12_need (c_X12_need x0 (41 : Int32) r6.2) rfl rfl (show 3 + 1 ≤ d + 1 by omega) (Nat.le_of_ble_eq_true rfl) (Nat.le_of_ble_eq_true rfl) (Nat.le_of_ble_eq_true rfl) (fun g7 => ?_)
          refine J_iload_n rfl rfl (show Dc (Y_X12_thing (d + 1)) 65 (.iload_n 3) 1 66 from ⟨(by decide +kernel : decode cX12_thing 65 = .ok (.iload_n 3, 1)), rfl⟩) ?_
          exact J_reti (show Dc (Y_X12_thing (d + 1)) 66 (.ireturn) 1 67 from ⟨(by decide +kernel : decode cX12_thing 66 = .ok (.ireturn, 1)), rfl⟩) rfl (h0 _ _) (Nat.le_of_ble_eq_true rfl) (Nat.le_of_ble_eq_true rfl)
    · refine J_iconst (0 : Int32) rfl (show Dc (Y_X12_thing (d + 1)) 23 (.iconst 0) 1 24 from ⟨(by decide +kernel : decode cX12_thing 23 = .ok (.iconst 0, 1)), rfl⟩) ?_
      exact J_reti (show Dc (Y_X12_thing (d + 1)) 24 (.ireturn) 1 25 from ⟨(by decide +kernel : decode cX12_thing 24 = .ok (.ireturn, 1)), rfl⟩) rfl (h0 _ _) (Nat.le_of_ble_eq_true rfl) (Nat.le_of_ble_eq_true rfl)
  · refine J_aload_n rfl rfl (show Dc (Y_X12_thing (d + 1)) 9 (.aload_n 0) 1 10 from ⟨(by decide +kernel : decode cX12_thing 9 = .ok (.aload_n 0, 1)), rfl⟩) ?_
    refine J_iload_n rfl rfl (show Dc (Y_X12_thing (d + 1)) 10 (.iload_n 1) 1 11 from ⟨(by decide +kernel : decode cX12_thing 10 = .ok (.iload_n 1, 1)), rfl⟩) ?_
    refine J_callVi (fun r => r.1) (fun r => r.2) (show Dc (Y_X12_thing (d + 1)) 11 (.invokevirtual 195) 3 14 from ⟨(by decide +kernel : decode cX12_thing 11 = .ok (.invokevirtual 195, 3)), rfl⟩) w_m_RX12_195 w_in_X12_thing rfl w_se_X12_thing (w_cw_X12_thing _) (hF_X12_thing x0 x1 r1.2) rfl rfl (Nat.le_refl _) (Nat.le_of_ble_eq_true rfl) (Nat.le_of_ble_eq_true rfl) (Nat.le_of_ble_eq_true rfl) (fun r8 => ?_)
    refine J_ineg (show Dc (Y_X12_thing (d + 1)) 14 (.ineg) 1 15 from ⟨(by decide +kernel : decode cX12_thing 14 = .ok (.ineg, 1)), rfl⟩) ?_
    exact J_reti (show Dc (Y_X12_thing (d + 1)) 15 (.ireturn) 1 16 from ⟨(by decide +kernel : decode cX12_thing 15 = .ok (.ireturn, 1)), rfl⟩) rfl (h0 _ _) (Nat.le_of_ble_eq_true rfl) (Nat.le_of_ble_eq_true rfl)

def f_grp_X12_held (N : Nat) : Nat → Nat → Nat → Int32 → ZS → Option (Int32 × ZS)
  | 0 => fun _ _ _ _ => none
  | n + 1 => fun sel x0 x1 g => if sel = 0 then f_X12_held (f_grp_X12_held N n) N x0 x1 g else if sel = 1 then f_X12_sum (f_grp_X12_held N n) N x0 x1 g else if sel = 2 then f_X12_product (f_grp_X12_held N n) N x0 x1 g else f_X12_thing (f_grp_X12_held N n) N x0 x1 g

theorem c_grp_X12_held (N : Nat) : ∀ (n : Nat) (l : Launch) (D : ZD) (B0 : Nat), (∀ (x0 : Nat) (x1 : Int32) (g : ZS) r, f_grp_X12_held N n 0 x0 x1 g = some r → zCt l D B0 yX12_held (Y_X12_held (4 + n)) [.ref x0, .int x1] g (some (.int r.1)) r.2) ∧ (∀ (x0 : Nat) (x1 : Int32) (g : ZS) r, f_grp_X12_held N n 1 x0 x1 g = some r → zCt l D B0 yX12_sum (Y_X12_sum (4 + n)) [.ref x0, .int x1] g (some (.int r.1)) r.2) ∧ (∀ (x0 : Nat) (x1 : Int32) (g : ZS) r, f_grp_X12_held N n 2 x0 x1 g = some r → zCt l D B0 yX12_product (Y_X12_product (4 + n)) [.ref x0, .int x1] g (some (.int r.1)) r.2) ∧ (∀ (x0 : Nat) (x1 : Int32) (g : ZS) r, f_grp_X12_held N n 3 x0 x1 g = some r → zCt l D B0 yX12_thing (Y_X12_thing (4 + n)) [.ref x0, .int x1] g (some (.int r.1)) r.2)
  | 0, l, D, B0 => ⟨(fun _ _ _ _ h => (by cases h)), (fun _ _ _ _ h => (by cases h)), (fun _ _ _ _ h => (by cases h)), (fun _ _ _ _ h => (by cases h))⟩
  | n + 1, l, D, B0 => ⟨(fun x0 x1 g r h => zCt_ofF (vo := fun r => some (.int r.1)) (so := fun r => r.2) (by decide +kernel) rfl (fun h => by cases h) rfl (Nat.le_of_ble_eq_true rfl) (fun X => j_X12_held (show 4 ≤ 4 + n by omega) (fun x0 x1 g r h => (c_grp_X12_held N n (xl X) (xD X) (xB X)).2.1 x0 x1 g r h) N x0 x1 g (fun _ _ h => h)) r h),
    (fun x0 x1 g r h => zCt_ofF (vo := fun r => some (.int r.1)) (so := fun r => r.2) (by decide +kernel) rfl (fun h => by cases h) rfl (Nat.le_of_ble_eq_true rfl) (fun X => j_X12_sum (show 4 ≤ 4 + n by omega) (fun x0 x1 g r h => (c_grp_X12_held N n (xl X) (xD X) (xB X)).2.2.1 x0 x1 g r h) N x0 x1 g (fun _ _ h => h)) r h),
    (fun x0 x1 g r h => zCt_ofF (vo := fun r => some (.int r.1)) (so := fun r => r.2) (by decide +kernel) rfl (fun h => by cases h) rfl (Nat.le_of_ble_eq_true rfl) (fun X => j_X12_product (show 4 ≤ 4 + n by omega) (fun x0 x1 g r h => (c_grp_X12_held N n (xl X) (xD X) (xB X)).2.2.2 x0 x1 g r h) N x0 x1 g (fun _ _ h => h)) r h),
    (fun x0 x1 g r h => zCt_ofF (vo := fun r => some (.int r.1)) (so := fun r => r.2) (by decide +kernel) rfl (fun h => by cases h) rfl (Nat.le_of_ble_eq_true rfl) (fun X => j_X12_thing (show 4 ≤ 4 + n by omega) (fun x0 x1 g r h => (c_grp_X12_held N n (xl X) (xD X) (xB X)).1 x0 x1 g r h) (fun x0 x1 g r h => (c_grp_X12_held N n (xl X) (xD X) (xB X)).2.2.2 x0 x1 g r h) N x0 x1 g (fun _ _ h => h)) r h)⟩

def t_X12_held (N : Nat) (x0 : Nat) (x1 : Int32) (g : ZS) : Option (Int32 × ZS) := f_grp_X12_held N 100 0 x0 x1 g

theorem c_X12_held {l : Launch} {D : ZD} {B0 : Nat} (N : Nat) (x0 : Nat) (x1 : Int32) (g : ZS) : ∀ r, t_X12_held N x0 x1 g = some r → zCt l D B0 yX12_held (Y_X12_held 104) [.ref x0, .int x1] g (some (.int r.1)) r.2 := fun r h => (c_grp_X12_held N 100 l D B0).1 x0 x1 g r h

def t_X12_sum (N : Nat) (x0 : Nat) (x1 : Int32) (g : ZS) : Option (Int32 × ZS) := f_grp_X12_held N 100 1 x0 x1 g

theorem c_X12_sum {l : Launch} {D : ZD} {B0 : Nat} (N : Nat) (x0 : Nat) (x1 : Int32) (g : ZS) : ∀ r, t_X12_sum N x0 x1 g = some r → zCt l D B0 yX12_sum (Y_X12_sum 104) [.ref x0, .int x1] g (some (.int r.1)) r.2 := fun r h => (c_grp_X12_held N 100 l D B0).2.1 x0 x1 g r h

def t_X12_product (N : Nat) (x0 : Nat) (x1 : Int32) (g : ZS) : Option (Int32 × ZS) := f_grp_X12_held N 100 2 x0 x1 g

theorem c_X12_product {l : Launch} {D : ZD} {B0 : Nat} (N : Nat) (x0 : Nat) (x1 : Int32) (g : ZS) : ∀ r, t_X12_product N x0 x1 g = some r → zCt l D B0 yX12_product (Y_X12_product 104) [.ref x0, .int x1] g (some (.int r.1)) r.2 := fun r h => (c_grp_X12_held N 100 l D B0).2.2.1 x0 x1 g r h

def t_X12_thing (N : Nat) (x0 : Nat) (x1 : Int32) (g : ZS) : Option (Int32 × ZS) := f_grp_X12_held N 100 3 x0 x1 g

theorem c_X12_thing {l : Launch} {D : ZD} {B0 : Nat} (N : Nat) (x0 : Nat) (x1 : Int32) (g : ZS) : ∀ r, t_X12_thing N x0 x1 g = some r → zCt l D B0 yX12_thing (Y_X12_thing 104) [.ref x0, .int x1] g (some (.int r.1)) r.2 := fun r h => (c_grp_X12_held N 100 l D B0).2.2.2 x0 x1 g r h

def f_X12_goRing_105 (F : Nat → Int32 → Int32 → Int32 → ZS → Option (Int32 × ZS)) (N : Nat) (x0 : Nat) (x1 : Int32) (x2 : Int32) (x3 : Int32) (x4 : Int32)  (g : ZS) : Option ((Int32 × ZS) ⊕ (Int32 × ZS)) :=
  some (.inl (x4 + (1 : Int32), g))

def f_X12_goRing_38 (F : Nat → Int32 → Int32 → Int32 → ZS → Option (Int32 × ZS)) (N : Nat) (x0 : Nat) (x1 : Int32) (x2 : Int32) (x3 : Int32) (x4 : Int32)  (g : ZS) : Option ((Int32 × ZS) ⊕ (Int32 × ZS)) :=
  if (8 : Int32) ≤ x4 then
    (
      some ((0 : Int32), g)).map Sum.inr
  else
    (f_X12_has x3 x4).bind fun v1 =>
    if v1 = 0 then
      (zrdR g x0 12 37).bind fun v2 =>
      (zrdR g x0 12 32).bind fun v3 =>
      (zald 20 g v3 (x1 - (1 : Int32))).bind fun v4 =>
      (zald 20 g v2 v4).bind fun v5 =>
      (f_X12_has v5 x4).bind fun v6 =>
      if v6 = 0 then
        f_X12_goRing_105 F N x0 x1 x2 x3 x4 g
      else
        (zrdR g x0 12 32).bind fun v7 =>
        (zast 20 g v7 x1 x4).bind fun g8 =>
        zvs g8 x0 12 <| (F x0 (x1 + (1 : Int32)) x2 (x3 ||| ((1 : Int32) <<< (x4 &&& 31))) g8).bind fun r9 =>
        if r9.1 = 0 then
          f_X12_goRing_105 F N x0 x1 x2 x3 x4 r9.2
        else
          (
            some ((1 : Int32), r9.2)).map Sum.inr
    else
      f_X12_goRing_105 F N x0 x1 x2 x3 x4 g

def f_X12_goRing (F : Nat → Int32 → Int32 → Int32 → ZS → Option (Int32 × ZS)) (N : Nat) (x0 : Nat) (x1 : Int32) (x2 : Int32) (x3 : Int32)  (g : ZS) : Option (Int32 × ZS) :=
  if x1 = x2 then
    (zrdR g x0 12 37).bind fun v3 =>
    (zrdR g x0 12 32).bind fun v4 =>
    (zald 20 g v4 (x1 - (1 : Int32))).bind fun v5 =>
    (zald 20 g v3 v5).bind fun v6 =>
    (zrdR g x0 12 32).bind fun v7 =>
    (zald 20 g v7 (0 : Int32)).bind fun v8 =>
    (f_X12_has v6 v8).bind fun v9 =>
    if vp_nar .boolean v9 = v9 then some (v9, g) else none
  else
    (zrdR g x0 12 32).bind fun v1 =>
    (zald 20 g v1 (0 : Int32)).bind fun v2 =>
    zloop (fun s => f_X12_goRing_38 F N x0 x1 x2 x3 s.1 s.2) N (v2 + (1 : Int32), g)

theorem j_X12_goRing_105 {X : ZX} {F : Nat → Int32 → Int32 → Int32 → ZS → Option (Int32 × ZS)} {d : Nat} (hd : 1 ≤ d) (hF_X12_goRing : ∀ (x0 : Nat) (x1 : Int32) (x2 : Int32) (x3 : Int32) (g : ZS) r, F x0 x1 x2 x3 g = some r → zCt (xl X) (xD X) (xB X) yX12_goRing (Y_X12_goRing d) [.ref x0, .int x1, .int x2, .int x3] g (some (.int r.1)) r.2) (N : Nat) (x0 : Nat) (x1 : Int32) (x2 : Int32) (x3 : Int32) (x4 : Int32)   (g : ZS) {K : ((Int32 × ZS) ⊕ (Int32 × ZS)) → Prop} (h0 : ∀ v g, K (.inr (v, g)) → xK X (some (.int v)) g) (hL38 : ∀ s, K (.inl s) → zG (Y_X12_goRing (d + 1)) X 0 0 38 [some (.ref x0), some (.int x1), some (.int x2), some (.int x3), some (.int s.1)] [] s.2) : J (Y_X12_goRing (d + 1)) X 0 0 105 [some (.ref x0), some (.int x1), some (.int x2), some (.int x3), some (.int x4)] [] g (f_X12_goRing_105 F N x0 x1 x2 x3 x4 g) K := by
  unfold f_X12_goRing_105
  refine J_iinc (1 : Int32) [some (.ref x0), some (.int x1), some (.int x2), some (.int x3), some (.int (x4 + (1 : Int32)))] (show Dc (Y_X12_goRing (d + 1)) 105 (.iinc 4 1) 3 108 from ⟨(by decide +kernel : decode cX12_goRing 105 = .ok (.iinc 4 1, 3)), rfl⟩) rfl rfl (Nat.le_of_ble_eq_true rfl) rfl rfl ?_
  refine J_goto (tg := 38) (show Dc (Y_X12_goRing (d + 1)) 108 (.goto (-70)) 3 111 from ⟨(by decide +kernel : decode cX12_goRing 108 = .ok (.goto (-70), 3)), rfl⟩) (by decide) ?_
  exact J_leaf (fun h => hL38 (x4 + (1 : Int32), g) h)

theorem j_X12_goRing_38 {X : ZX} {F : Nat → Int32 → Int32 → Int32 → ZS → Option (Int32 × ZS)} {d : Nat} (hd : 1 ≤ d) (hF_X12_goRing : ∀ (x0 : Nat) (x1 : Int32) (x2 : Int32) (x3 : Int32) (g : ZS) r, F x0 x1 x2 x3 g = some r → zCt (xl X) (xD X) (xB X) yX12_goRing (Y_X12_goRing d) [.ref x0, .int x1, .int x2, .int x3] g (some (.int r.1)) r.2) (N : Nat) (x0 : Nat) (x1 : Int32) (x2 : Int32) (x3 : Int32) (x4 : Int32)   (g : ZS) {K : ((Int32 × ZS) ⊕ (Int32 × ZS)) → Prop} (h0 : ∀ v g, K (.inr (v, g)) → xK X (some (.int v)) g) (hL38 : ∀ s, K (.inl s) → zG (Y_X12_goRing (d + 1)) X 0 0 38 [some (.ref x0), some (.int x1), some (.int x2), some (.int x3), some (.int s.1)] [] s.2) : J (Y_X12_goRing (d + 1)) X 0 0 38 [some (.ref x0), some (.int x1), some (.int x2), some (.int x3), some (.int x4)] [] g (f_X12_goRing_38 F N x0 x1 x2 x3 x4 g) K := by
  unfold f_X12_goRing_38
  refine J_iload rfl (show Dc (Y_X12_goRing (d + 1)) 38 (.iload 4) 2 40 from ⟨(by decide +kernel : decode cX12_goRing 38 = .ok (.iload 4, 2)), rfl⟩) ?_
  refine J_bipush (8 : Int32) rfl (show Dc (Y_X12_goRing (d + 1)) 40 (.bipush 8) 2 42 from ⟨(by decide +kernel : decode cX12_goRing 40 = .ok (.bipush 8, 2)), rfl⟩) ?_
  refine J_icmp_ge (tg := 111) (show Dc (Y_X12_goRing (d + 1)) 42 (.if_icmp .ge 69) 3 45 from ⟨(by decide +kernel : decode cX12_goRing 42 = .ok (.if_icmp .ge 69, 3)), rfl⟩) (by decide) (fun h => ?_) (fun h => ?_)
  · refine J_map (f := Sum.inr) (fun _ h => h) ?_
    refine J_iconst (0 : Int32) rfl (show Dc (Y_X12_goRing (d + 1)) 111 (.iconst 0) 1 112 from ⟨(by decide +kernel : decode cX12_goRing 111 = .ok (.iconst 0, 1)), rfl⟩) ?_
    exact J_retz rfl (show Dc (Y_X12_goRing (d + 1)) 112 (.ireturn) 1 113 from ⟨(by decide +kernel : decode cX12_goRing 112 = .ok (.ireturn, 1)), rfl⟩) rfl (h0 _ _) (Nat.le_of_ble_eq_true rfl) (Nat.le_of_ble_eq_true rfl)
  · refine J_iload_n rfl rfl (show Dc (Y_X12_goRing (d + 1)) 45 (.iload_n 3) 1 46 from ⟨(by decide +kernel : decode cX12_goRing 45 = .ok (.iload_n 3, 1)), rfl⟩) ?_
    refine J_iload rfl (show Dc (Y_X12_goRing (d + 1)) 46 (.iload 4) 2 48 from ⟨(by decide +kernel : decode cX12_goRing 46 = .ok (.iload 4, 2)), rfl⟩) ?_
    refine J_callSi (fun r => r) (fun _ => g) (show Dc (Y_X12_goRing (d + 1)) 48 (.invokestatic 328) 3 51 from ⟨(by decide +kernel : decode cX12_goRing 48 = .ok (.invokestatic 328, 3)), rfl⟩) w_m_RX12_328 w_st_X12_has w_cw_X12_has (c_X12_has x3 x4 g) rfl rfl (show 1 + 1 ≤ d + 1 by omega) (Nat.le_of_ble_eq_true rfl) (Nat.le_of_ble_eq_true rfl) (Nat.le_of_ble_eq_true rfl) (fun v1 => ?_)
    refine J_if_ne (tg := 105) (show Dc (Y_X12_goRing (d + 1)) 51 (.ifCond .ne 54) 3 54 from ⟨(by decide +kernel : decode cX12_goRing 51 = .ok (.ifCond .ne 54, 3)), rfl⟩) (by decide) (fun h => ?_) (fun h => ?_)
    · exact j_X12_goRing_105 hd hF_X12_goRing N x0 x1 x2 x3 x4 g h0 hL38
    · refine J_aload_n rfl rfl (show Dc (Y_X12_goRing (d + 1)) 54 (.aload_n 0) 1 55 from ⟨(by decide +kernel : decode cX12_goRing 54 = .ok (.aload_n 0, 1)), rfl⟩) ?_
      refine J_getR (show Dc (Y_X12_goRing (d + 1)) 55 (.getfield 84) 3 58 from ⟨(by decide +kernel : decode cX12_goRing 55 = .ok (.getfield 84, 3)), rfl⟩) w_f_RX12_84 rfl (fun v2 => ?_)
      refine J_aload_n rfl rfl (show Dc (Y_X12_goRing (d + 1)) 58 (.aload_n 0) 1 59 from ⟨(by decide +kernel : decode cX12_goRing 58 = .ok (.aload_n 0, 1)), rfl⟩) ?_
      refine J_getR (show Dc (Y_X12_goRing (d + 1)) 59 (.getfield 72) 3 62 from ⟨(by decide +kernel : decode cX12_goRing 59 = .ok (.getfield 72, 3)), rfl⟩) w_f_RX12_72 rfl (fun v3 => ?_)
      refine J_iload_n rfl rfl (show Dc (Y_X12_goRing (d + 1)) 62 (.iload_n 1) 1 63 from ⟨(by decide +kernel : decode cX12_goRing 62 = .ok (.iload_n 1, 1)), rfl⟩) ?_
      refine J_iconst (1 : Int32) rfl (show Dc (Y_X12_goRing (d + 1)) 63 (.iconst 1) 1 64 from ⟨(by decide +kernel : decode cX12_goRing 63 = .ok (.iconst 1, 1)), rfl⟩) ?_
      refine J_isub (show Dc (Y_X12_goRing (d + 1)) 64 (.isub) 1 65 from ⟨(by decide +kernel : decode cX12_goRing 64 = .ok (.isub, 1)), rfl⟩) ?_
      refine J_iald (show Dc (Y_X12_goRing (d + 1)) 65 (.iaload) 1 66 from ⟨(by decide +kernel : decode cX12_goRing 65 = .ok (.iaload, 1)), rfl⟩) (fun v4 => ?_)
      refine J_iald (show Dc (Y_X12_goRing (d + 1)) 66 (.iaload) 1 67 from ⟨(by decide +kernel : decode cX12_goRing 66 = .ok (.iaload, 1)), rfl⟩) (fun v5 => ?_)
      refine J_iload rfl (show Dc (Y_X12_goRing (d + 1)) 67 (.iload 4) 2 69 from ⟨(by decide +kernel : decode cX12_goRing 67 = .ok (.iload 4, 2)), rfl⟩) ?_
      refine J_callSi (fun r => r) (fun _ => g) (show Dc (Y_X12_goRing (d + 1)) 69 (.invokestatic 328) 3 72 from ⟨(by decide +kernel : decode cX12_goRing 69 = .ok (.invokestatic 328, 3)), rfl⟩) w_m_RX12_328 w_st_X12_has w_cw_X12_has (c_X12_has v5 x4 g) rfl rfl (show 1 + 1 ≤ d + 1 by omega) (Nat.le_of_ble_eq_true rfl) (Nat.le_of_ble_eq_true rfl) (Nat.le_of_ble_eq_true rfl) (fun v6 => ?_)
      refine J_if_ne (tg := 78) (show Dc (Y_X12_goRing (d + 1)) 72 (.ifCond .ne 6) 3 75 from ⟨(by decide +kernel : decode cX12_goRing 72 = .ok (.ifCond .ne 6, 3)), rfl⟩) (by decide) (fun h => ?_) (fun h => ?_)
      · refine J_aload_n rfl rfl (show Dc (Y_X12_goRing (d + 1)) 78 (.aload_n 0) 1 79 from ⟨(by decide +kernel : decode cX12_goRing 78 = .ok (.aload_n 0, 1)), rfl⟩) ?_
        refine J_getR (show Dc (Y_X12_goRing (d + 1)) 79 (.getfield 72) 3 82 from ⟨(by decide +kernel : decode cX12_goRing 79 = .ok (.getfield 72, 3)), rfl⟩) w_f_RX12_72 rfl (fun v7 => ?_)
        refine J_iload_n rfl rfl (show Dc (Y_X12_goRing (d + 1)) 82 (.iload_n 1) 1 83 from ⟨(by decide +kernel : decode cX12_goRing 82 = .ok (.iload_n 1, 1)), rfl⟩) ?_
        refine J_iload rfl (show Dc (Y_X12_goRing (d + 1)) 83 (.iload 4) 2 85 from ⟨(by decide +kernel : decode cX12_goRing 83 = .ok (.iload 4, 2)), rfl⟩) ?_
        refine J_iast (show Dc (Y_X12_goRing (d + 1)) 85 (.iastore) 1 86 from ⟨(by decide +kernel : decode cX12_goRing 85 = .ok (.iastore, 1)), rfl⟩) (fun g8 => ?_)
        refine J_aload_n rfl rfl (show Dc (Y_X12_goRing (d + 1)) 86 (.aload_n 0) 1 87 from ⟨(by decide +kernel : decode cX12_goRing 86 = .ok (.aload_n 0, 1)), rfl⟩) ?_
        refine J_iload_n rfl rfl (show Dc (Y_X12_goRing (d + 1)) 87 (.iload_n 1) 1 88 from ⟨(by decide +kernel : decode cX12_goRing 87 = .ok (.iload_n 1, 1)), rfl⟩) ?_
        refine J_iconst (1 : Int32) rfl (show Dc (Y_X12_goRing (d + 1)) 88 (.iconst 1) 1 89 from ⟨(by decide +kernel : decode cX12_goRing 88 = .ok (.iconst 1, 1)), rfl⟩) ?_
        refine J_iadd (show Dc (Y_X12_goRing (d + 1)) 89 (.iadd) 1 90 from ⟨(by decide +kernel : decode cX12_goRing 89 = .ok (.iadd, 1)), rfl⟩) ?_
        refine J_iload_n rfl rfl (show Dc (Y_X12_goRing (d + 1)) 90 (.iload_n 2) 1 91 from ⟨(by decide +kernel : decode cX12_goRing 90 = .ok (.iload_n 2, 1)), rfl⟩) ?_
        refine J_iload_n rfl rfl (show Dc (Y_X12_goRing (d + 1)) 91 (.iload_n 3) 1 92 from ⟨(by decide +kernel : decode cX12_goRing 91 = .ok (.iload_n 3, 1)), rfl⟩) ?_
        refine J_iconst (1 : Int32) rfl (show Dc (Y_X12_goRing (d + 1)) 92 (.iconst 1) 1 93 from ⟨(by decide +kernel : decode cX12_goRing 92 = .ok (.iconst 1, 1)), rfl⟩) ?_
        refine J_iload rfl (show Dc (Y_X12_goRing (d + 1)) 93 (.iload 4) 2 95 from ⟨(by decide +kernel : decode cX12_goRing 93 = .ok (.iload 4, 2)), rfl⟩) ?_
        refine J_ishl (show Dc (Y_X12_goRing (d + 1)) 95 (.ishl) 1 96 from ⟨(by decide +kernel : decode cX12_goRing 95 = .ok (.ishl, 1)), rfl⟩) ?_
        refine J_ior (show Dc (Y_X12_goRing (d + 1)) 96 (.ior) 1 97 from ⟨(by decide +kernel : decode cX12_goRing 96 = .ok (.ior, 1)), rfl⟩) ?_
        refine J_callVi (fun r => r.1) (fun r => r.2) (show Dc (Y_X12_goRing (d + 1)) 97 (.invokevirtual 354) 3 100 from ⟨(by decide +kernel : decode cX12_goRing 97 = .ok (.invokevirtual 354, 3)), rfl⟩) w_m_RX12_354 w_in_X12_goRing rfl w_se_X12_goRing (w_cw_X12_goRing _) (hF_X12_goRing x0 (x1 + (1 : Int32)) x2 (x3 ||| ((1 : Int32) <<< (x4 &&& 31))) g8) rfl rfl (Nat.le_refl _) (Nat.le_of_ble_eq_true rfl) (Nat.le_of_ble_eq_true rfl) (Nat.le_of_ble_eq_true rfl) (fun r9 => ?_)
        refine J_if_eq (tg := 105) (show Dc (Y_X12_goRing (d + 1)) 100 (.ifCond .eq 5) 3 103 from ⟨(by decide +kernel : decode cX12_goRing 100 = .ok (.ifCond .eq 5, 3)), rfl⟩) (by decide) (fun h => ?_) (fun h => ?_)
        · exact j_X12_goRing_105 hd hF_X12_goRing N x0 x1 x2 x3 x4 r9.2 h0 hL38
        · refine J_map (f := Sum.inr) (fun _ h => h) ?_
          refine J_iconst (1 : Int32) rfl (show Dc (Y_X12_goRing (d + 1)) 103 (.iconst 1) 1 104 from ⟨(by decide +kernel : decode cX12_goRing 103 = .ok (.iconst 1, 1)), rfl⟩) ?_
          exact J_retz rfl (show Dc (Y_X12_goRing (d + 1)) 104 (.ireturn) 1 105 from ⟨(by decide +kernel : decode cX12_goRing 104 = .ok (.ireturn, 1)), rfl⟩) rfl (h0 _ _) (Nat.le_of_ble_eq_true rfl) (Nat.le_of_ble_eq_true rfl)
      · refine J_goto (tg := 105) (show Dc (Y_X12_goRing (d + 1)) 75 (.goto 30) 3 78 from ⟨(by decide +kernel : decode cX12_goRing 75 = .ok (.goto 30, 3)), rfl⟩) (by decide) ?_
        exact j_X12_goRing_105 hd hF_X12_goRing N x0 x1 x2 x3 x4 g h0 hL38

theorem j_X12_goRing {X : ZX} {F : Nat → Int32 → Int32 → Int32 → ZS → Option (Int32 × ZS)} {d : Nat} (hd : 1 ≤ d) (hF_X12_goRing : ∀ (x0 : Nat) (x1 : Int32) (x2 : Int32) (x3 : Int32) (g : ZS) r, F x0 x1 x2 x3 g = some r → zCt (xl X) (xD X) (xB X) yX12_goRing (Y_X12_goRing d) [.ref x0, .int x1, .int x2, .int x3] g (some (.int r.1)) r.2) (N : Nat) (x0 : Nat) (x1 : Int32) (x2 : Int32) (x3 : Int32)   (g : ZS) {K : (Int32 × ZS) → Prop} (h0 : ∀ v g, K (v, g) → xK X (some (.int v)) g) : J (Y_X12_goRing (d + 1)) X 0 0 0 [some (.ref x0), some (.int x1), some (.int x2), some (.int x3), none] [] g (f_X12_goRing F N x0 x1 x2 x3 g) K := by
  unfold f_X12_goRing
  refine J_iload_n rfl rfl (show Dc (Y_X12_goRing (d + 1)) 0 (.iload_n 1) 1 1 from ⟨(by decide +kernel : decode cX12_goRing 0 = .ok (.iload_n 1, 1)), rfl⟩) ?_
  refine J_iload_n rfl rfl (show Dc (Y_X12_goRing (d + 1)) 1 (.iload_n 2) 1 2 from ⟨(by decide +kernel : decode cX12_goRing 1 = .ok (.iload_n 2, 1)), rfl⟩) ?_
  refine J_icmp_ne (tg := 28) (show Dc (Y_X12_goRing (d + 1)) 2 (.if_icmp .ne 26) 3 5 from ⟨(by decide +kernel : decode cX12_goRing 2 = .ok (.if_icmp .ne 26, 3)), rfl⟩) (by decide) (fun h => ?_) (fun h => ?_)
  · refine J_aload_n rfl rfl (show Dc (Y_X12_goRing (d + 1)) 28 (.aload_n 0) 1 29 from ⟨(by decide +kernel : decode cX12_goRing 28 = .ok (.aload_n 0, 1)), rfl⟩) ?_
    refine J_getR (show Dc (Y_X12_goRing (d + 1)) 29 (.getfield 72) 3 32 from ⟨(by decide +kernel : decode cX12_goRing 29 = .ok (.getfield 72, 3)), rfl⟩) w_f_RX12_72 rfl (fun v1 => ?_)
    refine J_iconst (0 : Int32) rfl (show Dc (Y_X12_goRing (d + 1)) 32 (.iconst 0) 1 33 from ⟨(by decide +kernel : decode cX12_goRing 32 = .ok (.iconst 0, 1)), rfl⟩) ?_
    refine J_iald (show Dc (Y_X12_goRing (d + 1)) 33 (.iaload) 1 34 from ⟨(by decide +kernel : decode cX12_goRing 33 = .ok (.iaload, 1)), rfl⟩) (fun v2 => ?_)
    refine J_iconst (1 : Int32) rfl (show Dc (Y_X12_goRing (d + 1)) 34 (.iconst 1) 1 35 from ⟨(by decide +kernel : decode cX12_goRing 34 = .ok (.iconst 1, 1)), rfl⟩) ?_
    refine J_iadd (show Dc (Y_X12_goRing (d + 1)) 35 (.iadd) 1 36 from ⟨(by decide +kernel : decode cX12_goRing 35 = .ok (.iadd, 1)), rfl⟩) ?_
    refine J_istore [some (.ref x0), some (.int x1), some (.int x2), some (.int x3), some (.int (v2 + (1 : Int32)))] (show Dc (Y_X12_goRing (d + 1)) 36 (.istore 4) 2 38 from ⟨(by decide +kernel : decode cX12_goRing 36 = .ok (.istore 4, 2)), rfl⟩) (Nat.le_of_ble_eq_true rfl) rfl rfl ?_
    exact J_loop (X := X) (K := K) (uc := fun _ => 0) (us := fun _ => 0) (lf := fun s => [some (.ref x0), some (.int x1), some (.int x2), some (.int x3), some (.int s.1)]) (gf := fun s => s.2) (fun s => j_X12_goRing_38 (K := zKl (Y_X12_goRing (d + 1)) X 38 (fun _ => 0) (fun _ => 0) (fun s => [some (.ref x0), some (.int x1), some (.int x2), some (.int x3), some (.int s.1)]) (fun s => s.2) K) hd hF_X12_goRing N x0 x1 x2 x3 s.1 s.2 h0 (fun s h => h)) N (v2 + (1 : Int32), g)
  · refine J_aload_n rfl rfl (show Dc (Y_X12_goRing (d + 1)) 5 (.aload_n 0) 1 6 from ⟨(by decide +kernel : decode cX12_goRing 5 = .ok (.aload_n 0, 1)), rfl⟩) ?_
    refine J_getR (show Dc (Y_X12_goRing (d + 1)) 6 (.getfield 84) 3 9 from ⟨(by decide +kernel : decode cX12_goRing 6 = .ok (.getfield 84, 3)), rfl⟩) w_f_RX12_84 rfl (fun v3 => ?_)
    refine J_aload_n rfl rfl (show Dc (Y_X12_goRing (d + 1)) 9 (.aload_n 0) 1 10 from ⟨(by decide +kernel : decode cX12_goRing 9 = .ok (.aload_n 0, 1)), rfl⟩) ?_
    refine J_getR (show Dc (Y_X12_goRing (d + 1)) 10 (.getfield 72) 3 13 from ⟨(by decide +kernel : decode cX12_goRing 10 = .ok (.getfield 72, 3)), rfl⟩) w_f_RX12_72 rfl (fun v4 => ?_)
    refine J_iload_n rfl rfl (show Dc (Y_X12_goRing (d + 1)) 13 (.iload_n 1) 1 14 from ⟨(by decide +kernel : decode cX12_goRing 13 = .ok (.iload_n 1, 1)), rfl⟩) ?_
    refine J_iconst (1 : Int32) rfl (show Dc (Y_X12_goRing (d + 1)) 14 (.iconst 1) 1 15 from ⟨(by decide +kernel : decode cX12_goRing 14 = .ok (.iconst 1, 1)), rfl⟩) ?_
    refine J_isub (show Dc (Y_X12_goRing (d + 1)) 15 (.isub) 1 16 from ⟨(by decide +kernel : decode cX12_goRing 15 = .ok (.isub, 1)), rfl⟩) ?_
    refine J_iald (show Dc (Y_X12_goRing (d + 1)) 16 (.iaload) 1 17 from ⟨(by decide +kernel : decode cX12_goRing 16 = .ok (.iaload, 1)), rfl⟩) (fun v5 => ?_)
    refine J_iald (show Dc (Y_X12_goRing (d + 1)) 17 (.iaload) 1 18 from ⟨(by decide +kernel : decode cX12_goRing 17 = .ok (.iaload, 1)), rfl⟩) (fun v6 => ?_)
    refine J_aload_n rfl rfl (show Dc (Y_X12_goRing (d + 1)) 18 (.aload_n 0) 1 19 from ⟨(by decide +kernel : decode cX12_goRing 18 = .ok (.aload_n 0, 1)), rfl⟩) ?_
    refine J_getR (show Dc (Y_X12_goRing (d + 1)) 19 (.getfield 72) 3 22 from ⟨(by decide +kernel : decode cX12_goRing 19 = .ok (.getfield 72, 3)), rfl⟩) w_f_RX12_72 rfl (fun v7 => ?_)
    refine J_iconst (0 : Int32) rfl (show Dc (Y_X12_goRing (d + 1)) 22 (.iconst 0) 1 23 from ⟨(by decide +kernel : decode cX12_goRing 22 = .ok (.iconst 0, 1)), rfl⟩) ?_
    refine J_iald (show Dc (Y_X12_goRing (d + 1)) 23 (.iaload) 1 24 from ⟨(by decide +kernel : decode cX12_goRing 23 = .ok (.iaload, 1)), rfl⟩) (fun v8 => ?_)
    refine J_callSi (fun r => r) (fun _ => g) (show Dc (Y_X12_goRing (d + 1)) 24 (.invokestatic 328) 3 27 from ⟨(by decide +kernel : decode cX12_goRing 24 = .ok (.invokestatic 328, 3)), rfl⟩) w_m_RX12_328 w_st_X12_has w_cw_X12_has (c_X12_has v6 v8 g) rfl rfl (show 1 + 1 ≤ d + 1 by omega) (Nat.le_of_ble_eq_true rfl) (Nat.le_of_ble_eq_true rfl) (Nat.le_of_ble_eq_true rfl) (fun v9 => ?_)
    exact J_retZ (show Dc (Y_X12_goRing (d + 1)) 27 (.ireturn) 1 28 from ⟨(by decide +kernel : decode cX12_goRing 27 = .ok (.ireturn, 1)), rfl⟩) rfl (h0 _ _) (Nat.le_of_ble_eq_true rfl) (Nat.le_of_ble_eq_true rfl)

def f_grp_X12_goRing (N : Nat) : Nat → Nat → Int32 → Int32 → Int32 → ZS → Option (Int32 × ZS)
  | 0 => fun _ _ _ _ _ => none
  | n + 1 => fun x0 x1 x2 x3 g => f_X12_goRing (f_grp_X12_goRing N n) N x0 x1 x2 x3 g

theorem c_grp_X12_goRing (N : Nat) : ∀ (n : Nat) (l : Launch) (D : ZD) (B0 : Nat), (∀ (x0 : Nat) (x1 : Int32) (x2 : Int32) (x3 : Int32) (g : ZS) r, f_grp_X12_goRing N n x0 x1 x2 x3 g = some r → zCt l D B0 yX12_goRing (Y_X12_goRing (1 + n)) [.ref x0, .int x1, .int x2, .int x3] g (some (.int r.1)) r.2)
  | 0, l, D, B0 => (fun _ _ _ _ _ _ h => (by cases h))
  | n + 1, l, D, B0 => (fun x0 x1 x2 x3 g r h => zCt_ofF (vo := fun r => some (.int r.1)) (so := fun r => r.2) (by decide +kernel) rfl (fun h => by cases h) rfl (Nat.le_of_ble_eq_true rfl) (fun X => j_X12_goRing (show 1 ≤ 1 + n by omega) (fun x0 x1 x2 x3 g r h => (c_grp_X12_goRing N n (xl X) (xD X) (xB X)) x0 x1 x2 x3 g r h) N x0 x1 x2 x3 g (fun _ _ h => h)) r h)

def t_X12_goRing (N : Nat) (x0 : Nat) (x1 : Int32) (x2 : Int32) (x3 : Int32) (g : ZS) : Option (Int32 × ZS) := f_grp_X12_goRing N 100 x0 x1 x2 x3 g

theorem c_X12_goRing {l : Launch} {D : ZD} {B0 : Nat} (N : Nat) (x0 : Nat) (x1 : Int32) (x2 : Int32) (x3 : Int32) (g : ZS) : ∀ r, t_X12_goRing N x0 x1 x2 x3 g = some r → zCt l D B0 yX12_goRing (Y_X12_goRing 101) [.ref x0, .int x1, .int x2, .int x3] g (some (.int r.1)) r.2 := fun r h => (c_grp_X12_goRing N 100 l D B0) x0 x1 x2 x3 g r h

def f_X12_common_17 (F : Int64 → Int64 → Option Int64)  (s0 : Int64) : Option Int64 :=
  some s0

def f_X12_common (F : Int64 → Int64 → Option Int64) (x0 : Int64) (x2 : Int64)  : Option Int64 :=
  if (lg_cmp x2 (0 : Int64)) = 0 then
    f_X12_common_17 F x0
  else
    if x2 = 0 then none else
    (F x2 (x0 - x0 / x2 * x2)).bind fun v1 =>
    f_X12_common_17 F v1

theorem j_X12_common_17 {X : ZX} {F : Int64 → Int64 → Option Int64} {d : Nat} (hd : 1 ≤ d) (hF_X12_common : ∀ (x0 : Int64) (x1 : Int64) (g : ZS) r, F x0 x1 = some r → zCt (xl X) (xD X) (xB X) yX12_common (Y_X12_common d) [.long x0, .long x1] g (some (.long r)) g)  (s0 : Int64)  (g : ZS) {K : Int64 → Prop} (h0 : ∀ v, K v → xK X (some (.long v)) g) : J (Y_X12_common (d + 1)) X 0 0 17 [none, none, none, none] [.long s0] g (f_X12_common_17 F s0) K := by
  unfold f_X12_common_17
  exact J_retl (show Dc (Y_X12_common (d + 1)) 17 (.lreturn) 1 18 from ⟨(by decide +kernel : decode cX12_common 17 = .ok (.lreturn, 1)), rfl⟩) rfl (h0 _) (Nat.le_of_ble_eq_true rfl) (Nat.le_of_ble_eq_true rfl)

theorem j_X12_common {X : ZX} {F : Int64 → Int64 → Option Int64} {d : Nat} (hd : 1 ≤ d) (hF_X12_common : ∀ (x0 : Int64) (x1 : Int64) (g : ZS) r, F x0 x1 = some r → zCt (xl X) (xD X) (xB X) yX12_common (Y_X12_common d) [.long x0, .long x1] g (some (.long r)) g) (x0 : Int64) (x2 : Int64)   (g : ZS) {K : Int64 → Prop} (h0 : ∀ v, K v → xK X (some (.long v)) g) : J (Y_X12_common (d + 1)) X 0 0 0 [some (.long x0), none, some (.long x2), none] [] g (f_X12_common F x0 x2) K := by
  unfold f_X12_common
  refine J_lload_n rfl rfl (show Dc (Y_X12_common (d + 1)) 0 (.lload_n 2) 1 1 from ⟨(by decide +kernel : decode cX12_common 0 = .ok (.lload_n 2, 1)), rfl⟩) ?_
  refine J_lconst (0 : Int64) rfl (show Dc (Y_X12_common (d + 1)) 1 (.lconst 0) 1 2 from ⟨(by decide +kernel : decode cX12_common 1 = .ok (.lconst 0, 1)), rfl⟩) ?_
  refine J_lcmp (show Dc (Y_X12_common (d + 1)) 2 (.lcmp) 1 3 from ⟨(by decide +kernel : decode cX12_common 2 = .ok (.lcmp, 1)), rfl⟩) ?_
  refine J_if_ne (tg := 10) (show Dc (Y_X12_common (d + 1)) 3 (.ifCond .ne 7) 3 6 from ⟨(by decide +kernel : decode cX12_common 3 = .ok (.ifCond .ne 7, 3)), rfl⟩) (by decide) (fun h => ?_) (fun h => ?_)
  · refine J_lload_n rfl rfl (show Dc (Y_X12_common (d + 1)) 10 (.lload_n 2) 1 11 from ⟨(by decide +kernel : decode cX12_common 10 = .ok (.lload_n 2, 1)), rfl⟩) ?_
    refine J_lload_n rfl rfl (show Dc (Y_X12_common (d + 1)) 11 (.lload_n 0) 1 12 from ⟨(by decide +kernel : decode cX12_common 11 = .ok (.lload_n 0, 1)), rfl⟩) ?_
    refine J_lload_n rfl rfl (show Dc (Y_X12_common (d + 1)) 12 (.lload_n 2) 1 13 from ⟨(by decide +kernel : decode cX12_common 12 = .ok (.lload_n 2, 1)), rfl⟩) ?_
    refine J_lrem (show Dc (Y_X12_common (d + 1)) 13 (.lrem) 1 14 from ⟨(by decide +kernel : decode cX12_common 13 = .ok (.lrem, 1)), rfl⟩) ?_
    refine J_callSl (fun r => r) (fun _ => g) (show Dc (Y_X12_common (d + 1)) 14 (.invokestatic 363) 3 17 from ⟨(by decide +kernel : decode cX12_common 14 = .ok (.invokestatic 363, 3)), rfl⟩) w_m_RX12_363 w_st_X12_common (w_cw_X12_common _) (hF_X12_common x2 (x0 - x0 / x2 * x2) g) rfl rfl (Nat.le_refl _) (Nat.le_of_ble_eq_true rfl) (Nat.le_of_ble_eq_true rfl) (Nat.le_of_ble_eq_true rfl) (fun v1 => ?_)
    refine J_mask [false, false, false, false] ?_
    exact j_X12_common_17 hd hF_X12_common v1 g h0
  · refine J_lload_n rfl rfl (show Dc (Y_X12_common (d + 1)) 6 (.lload_n 0) 1 7 from ⟨(by decide +kernel : decode cX12_common 6 = .ok (.lload_n 0, 1)), rfl⟩) ?_
    refine J_goto (tg := 17) (show Dc (Y_X12_common (d + 1)) 7 (.goto 10) 3 10 from ⟨(by decide +kernel : decode cX12_common 7 = .ok (.goto 10, 3)), rfl⟩) (by decide) ?_
    refine J_mask [false, false, false, false] ?_
    exact j_X12_common_17 hd hF_X12_common x0 g h0

def f_grp_X12_common : Nat → Int64 → Int64 → Option Int64
  | 0 => fun _ _ => none
  | n + 1 => fun x0 x1 => f_X12_common (f_grp_X12_common n) x0 x1

theorem c_grp_X12_common : ∀ (n : Nat) (l : Launch) (D : ZD) (B0 : Nat), (∀ (x0 : Int64) (x1 : Int64) (g : ZS) r, f_grp_X12_common n x0 x1 = some r → zCt l D B0 yX12_common (Y_X12_common (1 + n)) [.long x0, .long x1] g (some (.long r)) g)
  | 0, l, D, B0 => (fun _ _ _ _ h => (by cases h))
  | n + 1, l, D, B0 => (fun x0 x1 g r h => zCt_ofF (vo := fun r => some (.long r)) (so := fun _ => g) (by decide +kernel) rfl (fun h => by cases h) rfl (Nat.le_of_ble_eq_true rfl) (fun X => j_X12_common (show 1 ≤ 1 + n by omega) (fun x0 x1 g r h => (c_grp_X12_common n (xl X) (xD X) (xB X)) x0 x1 g r h) x0 x1 g (fun _ h => h)) r h)

def t_X12_common (x0 : Int64) (x1 : Int64) : Option Int64 := f_grp_X12_common 100 x0 x1

theorem c_X12_common {l : Launch} {D : ZD} {B0 : Nat} (x0 : Int64) (x1 : Int64) (g : ZS) : ∀ r, t_X12_common x0 x1 = some r → zCt l D B0 yX12_common (Y_X12_common 101) [.long x0, .long x1] g (some (.long r)) g := fun r h => (c_grp_X12_common 100 l D B0) x0 x1 g r h
