def f_L_law_L705 (F : Nat) : Nat → St → Nat → XS → Nat → Nat → Nat → Int32 → UInt64 → Int32 → Int32 → Option (Int32 × St × Nat)
  | 0, _, _, _, _, _, _, _, _, _, _ => none
  | fu + 1, S0, nL, v0, v1, v3, v4, v6, v9, v11, v12 =>
    Option.bind (f_L_users F S0 v0) fun z1 => lt z1.1 fun r3 => lt z1.2 fun S2 =>
    if r3 ≤ v12 then
    (Option.bind (f_X10_logicalBytes F S2 v1) fun z6 => lt z6.1 fun r8 => lt z6.2 fun S7 =>
    if ¬ r8 = v11 then
    (some (0, S7, nL))
    else
    (ckn (FP.dsub (FP.i2d v6) ((4562254508917369340 : UInt64))) <|
    if (Op.cmpValue (FP.dcmp v9 (FP.dsub (FP.i2d v6) ((4562254508917369340 : UInt64)))) CmpOp.l) ≤ 0 then
    (some (0, S7, nL))
    else
    (ckn (FP.dadd (FP.i2d v6) ((4562254508917369340 : UInt64))) <|
    if 0 ≤ (Op.cmpValue (FP.dcmp v9 (FP.dadd (FP.i2d v6) ((4562254508917369340 : UInt64)))) CmpOp.g) then
    (some (0, S7, nL))
    else
    (some (1, S7, nL)))))
    else
    (Option.bind (f_L_feed F S2 v1 ((15 : Nat))) fun S16 =>
    Option.bind (f_X10_usage F S16 v1 v12) fun z19 => lt z19.2 fun S20 =>
    sm z19.1 (fun _ => none) (fun r21 =>
    cki v12 (ln S20 v3) <|
    if ¬ r21 = (ai S20 v3 (Int32.toNatClampNeg v12)) then
    (some (0, S20, nL))
    else
    (Option.bind (f_X10_matches F S20 v1 v12) fun z25 => lt z25.2 fun S26 =>
    sm z25.1 (fun _ => none) (fun r27 =>
    cki v12 (ln S26 v4) <|
    if ¬ r27 = (ai S26 v4 (Int32.toNatClampNeg v12)) then
    (some (0, S26, nL))
    else
    (Option.bind (f_X10_commonBytes F S26 v1 v12 v12) fun z31 => lt z31.2 fun S32 =>
    sm z31.1 (fun _ => none) (fun r33 =>
    cki v12 (ln S32 v3) <|
    if r33 ≤ (ai S32 v3 (Int32.toNatClampNeg v12)) then
    (Option.bind (f_X10_fairShare F S32 v1 v12) fun z37 => lt z37.2 fun S38 =>
    sm z37.1 (fun _ => none) (fun r39 =>
    ckn (FP.dadd v9 r39) <|
    lt (FP.dadd v9 r39) fun x42 =>
    cki v12 (ln S38 v3) <|
    lt (v11 + (ai S38 v3 (Int32.toNatClampNeg v12))) fun x44 =>
    lt (v12 + 1) fun x45 =>
    (fun a0 a1 a2 a3 a4 a5 a6 a7 a8 a9 => f_L_law_L705 F fu a0 a1 a2 a3 a4 a5 a6 a7 a8 a9) S38 nL v0 v1 v3 v4 v6 x42 x44 x45))
    else
    (some (0, S32, nL))))))))
def f_L_law_L690 (F : Nat) (k577 : St → Nat → XS → Nat → Nat → Nat → Nat → Int32 → Int32 → Option (Int32 × St × Nat)) (S0 : St) (nL : Nat) (v0 : XS) (v1 : Nat) (v2 : Nat) (v3 : Nat) (v4 : Nat) (v6 : Int32) (v9 : Int32) : Option (Int32 × St × Nat) :=
  lt (v9 + 1) fun x91 =>
  k577 S0 nL v0 v1 v2 v3 v4 v6 x91
def f_L_law_L602 (F : Nat) (k577 : St → Nat → XS → Nat → Nat → Nat → Nat → Int32 → Int32 → Option (Int32 × St × Nat)) : Nat → St → Nat → XS → Nat → Nat → Nat → Nat → Int32 → Int32 → Int64 → Int32 → Option (Int32 × St × Nat)
  | 0, _, _, _, _, _, _, _, _, _, _, _ => none
  | fu + 1, S0, nL, v0, v1, v2, v3, v4, v6, v9, v10, v12 =>
    Option.bind (f_L_part F S0 v9) fun z93 => lt z93.1 fun r95 => lt z93.2 fun S94 =>
    Option.bind (f_J0_length_8abf5 F S94 r95) fun z97 => lt z97.1 fun r99 => lt z97.2 fun S98 =>
    if r99 ≤ v12 then
    (cki v9 (ln S98 v2) <|
    Option.bind (f_X10_digest F S98 v1 (ai S98 v2 (Int32.toNatClampNeg v9))) fun z103 => lt z103.2 fun S104 =>
    sm z103.1 (fun _ => none) (fun r105 =>
    if ¬ (lg_cmp r105 v10) = 0 then
    (some (0, S104, nL))
    else
    (cki v9 (ln S104 v2) <|
    Option.bind (f_X10_part F S104 v1 (ai S104 v2 (Int32.toNatClampNeg v9)) ((0 : Int32))) fun z109 => lt z109.2 fun S110 =>
    sm z109.1 (fun _ => none) (fun r111 =>
    Option.bind (f_L_part F S110 v9) fun z113 => lt z113.1 fun r115 => lt z113.2 fun S114 =>
    Option.bind (f_J0_length_8abf5 F S114 r115) fun z117 => lt z117.1 fun r119 => lt z117.2 fun S118 =>
    if ¬ r111 = r119 then
    (some (0, S118, nL))
    else
    (cki v9 (ln S118 v2) <|
    Option.bind (f_X10_part F S118 v1 (ai S118 v2 (Int32.toNatClampNeg v9)) ((2 : Int32))) fun z123 => lt z123.2 fun S124 =>
    sm z123.1 (fun _ => none) (fun r125 =>
    if r125 = ((-1)) then
    (f_L_law_L690 F k577 S124 nL v0 v1 v2 v3 v4 v6 v9)
    else
    (some (0, S124, nL))))))))
    else
    (Option.bind (f_L_part F S98 v9) fun z128 => lt z128.1 fun r130 => lt z128.2 fun S129 =>
    Option.bind (f_J0_charAt_5068e F S129 r130 v12) fun z132 => lt z132.1 fun r134 => lt z132.2 fun S133 =>
    lt ((v10 ^^^ r134.toInt64) * ((1099511628211))) fun x136 =>
    lt (v12 + 1) fun x137 =>
    (fun a0 a1 a2 a3 a4 a5 a6 a7 a8 a9 a10 => f_L_law_L602 F k577 fu a0 a1 a2 a3 a4 a5 a6 a7 a8 a9 a10) S133 nL v0 v1 v2 v3 v4 v6 v9 x136 x137)
def f_L_law_L577 (F : Nat) : Nat → St → Nat → XS → Nat → Nat → Nat → Nat → Int32 → Int32 → Option (Int32 × St × Nat)
  | 0, _, _, _, _, _, _, _, _, _ => none
  | fu + 1, S0, nL, v0, v1, v2, v3, v4, v6, v9 =>
    if 6 ≤ v9 then
    (lt FP.dconst0 fun x184 =>
    f_L_law_L705 F F S0 nL v0 v1 v3 v4 v6 x184 0 0)
    else
    (cki v9 (ln S0 v2) <|
    if 0 ≤ (ai S0 v2 (Int32.toNatClampNeg v9)) then
    (lt ((-3750763034362895579)) fun x187 =>
    f_L_law_L602 F (fun a0 a1 a2 a3 a4 a5 a6 a7 a8 => f_L_law_L577 F fu a0 a1 a2 a3 a4 a5 a6 a7 a8) F S0 nL v0 v1 v2 v3 v4 v6 v9 x187 0)
    else
    (f_L_law_L690 F (fun a0 a1 a2 a3 a4 a5 a6 a7 a8 => f_L_law_L577 F fu a0 a1 a2 a3 a4 a5 a6 a7 a8) S0 nL v0 v1 v2 v3 v4 v6 v9))
def f_L_law_L523 (F : Nat) (k77 : St → Nat → XS → Nat → Nat → Nat → Nat → Int32 → Int32 → Int32 → Int32 → Int32 → Option (Int32 × St × Nat)) (S0 : St) (nL : Nat) (v0 : XS) (v1 : Nat) (v2 : Nat) (v3 : Nat) (v4 : Nat) (v5 : Int32) (v6 : Int32) (v7 : Int32) (v8 : Int32) (v9 : Int32) : Option (Int32 × St × Nat) :=
  lt (v9 + 1) fun x193 =>
  k77 S0 nL v0 v1 v2 v3 v4 v5 v6 v7 v8 x193
def f_L_law_L449 (F : Nat) (k77 : St → Nat → XS → Nat → Nat → Nat → Nat → Int32 → Int32 → Int32 → Int32 → Int32 → Option (Int32 × St × Nat)) (k300 : St → Nat → XS → Nat → Nat → Nat → Nat → Int32 → Int32 → Int32 → Int32 → Int32 → Int32 → Int32 → Int32 → Option (Int32 × St × Nat)) (S0 : St) (nL : Nat) (v0 : XS) (v1 : Nat) (v2 : Nat) (v3 : Nat) (v4 : Nat) (v5 : Int32) (v6 : Int32) (v7 : Int32) (v8 : Int32) (v9 : Int32) (v10 : Int32) (v11 : Int32) (v12 : Int32) : Option (Int32 × St × Nat) :=
  lt (v12 + 1) fun x195 =>
  k300 S0 nL v0 v1 v2 v3 v4 v5 v6 v7 v8 v9 v10 v11 x195
def f_L_law_L433 (F : Nat) (k77 : St → Nat → XS → Nat → Nat → Nat → Nat → Int32 → Int32 → Int32 → Int32 → Int32 → Option (Int32 × St × Nat)) (k300 : St → Nat → XS → Nat → Nat → Nat → Nat → Int32 → Int32 → Int32 → Int32 → Int32 → Int32 → Int32 → Int32 → Option (Int32 × St × Nat)) (S0 : St) (nL : Nat) (v0 : XS) (v1 : Nat) (v2 : Nat) (v3 : Nat) (v4 : Nat) (v5 : Int32) (v6 : Int32) (v7 : Int32) (v8 : Int32) (v9 : Int32) (v10 : Int32) (v11 : Int32) (v12 : Int32) (s0 : Int32) (s1 : Int32) : Option (Int32 × St × Nat) :=
  if ¬ s1 = s0 then
  (some (0, S0, nL))
  else
  (Option.bind (f_X10_enteredOn F S0 v1 v11 v12) fun z198 => lt z198.2 fun S199 =>
  sm z198.1 (fun _ => none) (fun r200 =>
  if r200 = 0 then
  (f_L_law_L449 F k77 k300 S199 nL v0 v1 v2 v3 v4 v5 v6 v7 v8 v9 v10 v11 v12)
  else
  (some (0, S199, nL))))
def f_L_law_L383 (F : Nat) (k77 : St → Nat → XS → Nat → Nat → Nat → Nat → Int32 → Int32 → Int32 → Int32 → Int32 → Option (Int32 × St × Nat)) (k300 : St → Nat → XS → Nat → Nat → Nat → Nat → Int32 → Int32 → Int32 → Int32 → Int32 → Int32 → Int32 → Int32 → Option (Int32 × St × Nat)) (S0 : St) (nL : Nat) (v0 : XS) (v1 : Nat) (v2 : Nat) (v3 : Nat) (v4 : Nat) (v5 : Int32) (v6 : Int32) (v7 : Int32) (v8 : Int32) (v9 : Int32) (v10 : Int32) (v11 : Int32) (v12 : Int32) (v13 : Int32) (s0 : Int32) (s1 : Int32) (s2 : Int32) (s3 : Nat) : Option (Int32 × St × Nat) :=
  cki s2 (ln S0 s3) <|
  lt (uai S0 s3 (Int32.toNatClampNeg s2) (s1 + s0)) fun S210 =>
  if v13 = 0 then
  (f_L_law_L449 F k77 k300 S210 nL v0 v1 v2 v3 v4 v5 v6 v7 v8 v9 v10 v11 v12)
  else
  (Option.bind (f_X10_state F S210 v1 v11 v12) fun z212 => lt z212.2 fun S213 =>
  sm z212.1 (fun _ => none) (fun r214 =>
  if ¬ r214 = 0 then
  (some (0, S213, nL))
  else
  (Option.bind (f_X10_classOf F S213 v1 v11 v12) fun z217 => lt z217.2 fun S218 =>
  sm z217.1 (fun _ => none) (fun r219 =>
  Option.bind (f_L_special F S218 v0 v9) fun z221 => lt z221.1 fun r223 => lt z221.2 fun S222 =>
  if 0 ≤ r223 then
  (Option.bind (f_L_special F S222 v0 v9) fun z226 => lt z226.1 fun r228 => lt z226.2 fun S227 =>
  f_L_law_L433 F k77 k300 S227 nL v0 v1 v2 v3 v4 v5 v6 v7 v8 v9 v10 v11 v12 r228 r219)
  else
  (Option.bind (f_L_classOf F S222 v0 v12) fun z230 => lt z230.1 fun r232 => lt z230.2 fun S231 =>
  f_L_law_L433 F k77 k300 S231 nL v0 v1 v2 v3 v4 v5 v6 v7 v8 v9 v10 v11 v12 r232 r219)))))
def f_L_law_L382 (F : Nat) (k77 : St → Nat → XS → Nat → Nat → Nat → Nat → Int32 → Int32 → Int32 → Int32 → Int32 → Option (Int32 × St × Nat)) (k300 : St → Nat → XS → Nat → Nat → Nat → Nat → Int32 → Int32 → Int32 → Int32 → Int32 → Int32 → Int32 → Int32 → Option (Int32 × St × Nat)) (S0 : St) (nL : Nat) (v0 : XS) (v1 : Nat) (v2 : Nat) (v3 : Nat) (v4 : Nat) (v5 : Int32) (v6 : Int32) (v7 : Int32) (v8 : Int32) (v9 : Int32) (v10 : Int32) (v11 : Int32) (v12 : Int32) (v13 : Int32) (s0 : Int32) (s1 : Int32) (s2 : Nat) : Option (Int32 × St × Nat) :=
  f_L_law_L383 F k77 k300 S0 nL v0 v1 v2 v3 v4 v5 v6 v7 v8 v9 v10 v11 v12 v13 0 s0 s1 s2
def f_L_law_L356 (F : Nat) (k77 : St → Nat → XS → Nat → Nat → Nat → Nat → Int32 → Int32 → Int32 → Int32 → Int32 → Option (Int32 × St × Nat)) (k300 : St → Nat → XS → Nat → Nat → Nat → Nat → Int32 → Int32 → Int32 → Int32 → Int32 → Int32 → Int32 → Int32 → Option (Int32 × St × Nat)) (S0 : St) (nL : Nat) (v0 : XS) (v1 : Nat) (v2 : Nat) (v3 : Nat) (v4 : Nat) (v5 : Int32) (v6 : Int32) (v7 : Int32) (v8 : Int32) (v9 : Int32) (v10 : Int32) (v11 : Int32) (v12 : Int32) (v13 : Int32) (s0 : Int32) (s1 : Int32) (s2 : Int32) (s3 : Nat) : Option (Int32 × St × Nat) :=
  cki s2 (ln S0 s3) <|
  lt (uai S0 s3 (Int32.toNatClampNeg s2) (s1 + s0)) fun S260 =>
  cki v12 (ln S260 v4) <|
  if v13 = 0 then
  (f_L_law_L382 F k77 k300 S260 nL v0 v1 v2 v3 v4 v5 v6 v7 v8 v9 v10 v11 v12 v13 (ai S260 v4 (Int32.toNatClampNeg v12)) v12 v4)
  else
  (Option.bind (f_L_hasAb F S260 v0 v9) fun z263 => lt z263.1 fun r265 => lt z263.2 fun S264 =>
  if r265 = 0 then
  (f_L_law_L382 F k77 k300 S264 nL v0 v1 v2 v3 v4 v5 v6 v7 v8 v9 v10 v11 v12 v13 (ai S260 v4 (Int32.toNatClampNeg v12)) v12 v4)
  else
  (f_L_law_L383 F k77 k300 S264 nL v0 v1 v2 v3 v4 v5 v6 v7 v8 v9 v10 v11 v12 v13 1 (ai S260 v4 (Int32.toNatClampNeg v12)) v12 v4))
def f_L_law_L334 (F : Nat) (k77 : St → Nat → XS → Nat → Nat → Nat → Nat → Int32 → Int32 → Int32 → Int32 → Int32 → Option (Int32 × St × Nat)) (k300 : St → Nat → XS → Nat → Nat → Nat → Nat → Int32 → Int32 → Int32 → Int32 → Int32 → Int32 → Int32 → Int32 → Option (Int32 × St × Nat)) (S0 : St) (nL : Nat) (v0 : XS) (v1 : Nat) (v2 : Nat) (v3 : Nat) (v4 : Nat) (v5 : Int32) (v6 : Int32) (v7 : Int32) (v8 : Int32) (v9 : Int32) (v10 : Int32) (v11 : Int32) (v12 : Int32) (s0 : Int32) : Option (Int32 × St × Nat) :=
  cki v12 (ln S0 v3) <|
  if s0 = 0 then
  (f_L_law_L356 F k77 k300 S0 nL v0 v1 v2 v3 v4 v5 v6 v7 v8 v9 v10 v11 v12 s0 0 (ai S0 v3 (Int32.toNatClampNeg v12)) v12 v3)
  else
  (Option.bind (f_L_size F S0 v0 v9) fun z279 => lt z279.1 fun r281 => lt z279.2 fun S280 =>
  f_L_law_L356 F k77 k300 S280 nL v0 v1 v2 v3 v4 v5 v6 v7 v8 v9 v10 v11 v12 s0 r281 (ai S0 v3 (Int32.toNatClampNeg v12)) v12 v3)
def f_L_law_L300 (F : Nat) (k77 : St → Nat → XS → Nat → Nat → Nat → Nat → Int32 → Int32 → Int32 → Int32 → Int32 → Option (Int32 × St × Nat)) : Nat → St → Nat → XS → Nat → Nat → Nat → Nat → Int32 → Int32 → Int32 → Int32 → Int32 → Int32 → Int32 → Int32 → Option (Int32 × St × Nat)
  | 0, _, _, _, _, _, _, _, _, _, _, _, _, _, _, _ => none
  | fu + 1, S0, nL, v0, v1, v2, v3, v4, v5, v6, v7, v8, v9, v10, v11, v12 =>
    Option.bind (f_L_users F S0 v0) fun z289 => lt z289.1 fun r291 => lt z289.2 fun S290 =>
    if r291 ≤ v12 then
    (Option.bind (f_X10_readers F S290 v1 v11) fun z294 => lt z294.2 fun S295 =>
    sm z294.1 (fun _ => none) (fun r296 =>
    Option.bind (f_L_recipients F S295 v0 v9) fun z298 => lt z298.1 fun r300 => lt z298.2 fun S299 =>
    if ¬ r296 = (r300 &&& (v10 ^^^ ((-1)))) then
    (some (0, S299, nL))
    else
    (Option.bind (f_X10_message F S299 v1 v11 ((3 : Int32))) fun z303 => lt z303.2 fun S304 =>
    sm z303.1 (fun _ => none) (fun r305 =>
    Option.bind (f_L_size F S304 v0 v9) fun z307 => lt z307.1 fun r309 => lt z307.2 fun S308 =>
    if ¬ r305 = r309 then
    (some (0, S308, nL))
    else
    (Option.bind (f_X10_message F S308 v1 v11 ((2 : Int32))) fun z312 => lt z312.2 fun S313 =>
    sm z312.1 (fun _ => none) (fun r314 =>
    Option.bind (f_L_parts F S313 v0 v9) fun z316 => lt z316.1 fun r318 => lt z316.2 fun S317 =>
    if ¬ r314 = r318 then
    (some (0, S317, nL))
    else
    (Option.bind (f_X10_message F S317 v1 v11 ((4 : Int32))) fun z321 => lt z321.2 fun S322 =>
    sm z321.1 (fun _ => none) (fun r323 =>
    if r323 = 1 then
    (lt (v7 + 1) fun x326 =>
    f_L_law_L523 F k77 S322 nL v0 v1 v2 v3 v4 v5 v6 x326 v8 v9)
    else
    (some (0, S322, nL))))))))))
    else
    (Option.bind (f_L_recipients F S290 v0 v9) fun z327 => lt z327.1 fun r329 => lt z327.2 fun S328 =>
    if ¬ (((r329 &&& (v10 ^^^ ((-1)))) >>> (v12 &&& 31)) &&& 1) = 1 then
    (f_L_law_L334 F k77 (fun a0 a1 a2 a3 a4 a5 a6 a7 a8 a9 a10 a11 a12 a13 a14 => f_L_law_L300 F k77 fu a0 a1 a2 a3 a4 a5 a6 a7 a8 a9 a10 a11 a12 a13 a14) S328 nL v0 v1 v2 v3 v4 v5 v6 v7 v8 v9 v10 v11 v12 0)
    else
    (f_L_law_L334 F k77 (fun a0 a1 a2 a3 a4 a5 a6 a7 a8 a9 a10 a11 a12 a13 a14 => f_L_law_L300 F k77 fu a0 a1 a2 a3 a4 a5 a6 a7 a8 a9 a10 a11 a12 a13 a14) S328 nL v0 v1 v2 v3 v4 v5 v6 v7 v8 v9 v10 v11 v12 1))
def f_L_law_L274 (F : Nat) (k77 : St → Nat → XS → Nat → Nat → Nat → Nat → Int32 → Int32 → Int32 → Int32 → Int32 → Option (Int32 × St × Nat)) (k224 : St → Nat → XS → Nat → Nat → Nat → Nat → Int32 → Int32 → Int32 → Int32 → Int32 → Int32 → Int32 → Int32 → Option (Int32 × St × Nat)) (S0 : St) (nL : Nat) (v0 : XS) (v1 : Nat) (v2 : Nat) (v3 : Nat) (v4 : Nat) (v5 : Int32) (v6 : Int32) (v7 : Int32) (v8 : Int32) (v9 : Int32) (v10 : Int32) (v11 : Int32) (v12 : Int32) (v13 : Int32) : Option (Int32 × St × Nat) :=
  Option.bind (f_X10_partOf F S0 v1 v11 v12) fun z375 => lt z375.2 fun S376 =>
  sm z375.1 (fun _ => none) (fun r377 =>
  cki v13 (ln S376 v2) <|
  if r377 = (ai S376 v2 (Int32.toNatClampNeg v13)) then
  (lt (v12 + 1) fun x381 =>
  k224 S376 nL v0 v1 v2 v3 v4 v5 v6 v7 v8 v9 v10 v11 x381)
  else
  (some (0, S376, nL)))
def f_L_law_L224 (F : Nat) (k77 : St → Nat → XS → Nat → Nat → Nat → Nat → Int32 → Int32 → Int32 → Int32 → Int32 → Option (Int32 × St × Nat)) : Nat → St → Nat → XS → Nat → Nat → Nat → Nat → Int32 → Int32 → Int32 → Int32 → Int32 → Int32 → Int32 → Int32 → Option (Int32 × St × Nat)
  | 0, _, _, _, _, _, _, _, _, _, _, _, _, _, _, _ => none
  | fu + 1, S0, nL, v0, v1, v2, v3, v4, v5, v6, v7, v8, v9, v10, v11, v12 =>
    Option.bind (f_L_parts F S0 v0 v9) fun z389 => lt z389.1 fun r391 => lt z389.2 fun S390 =>
    if r391 ≤ v12 then
    (f_L_law_L300 F k77 F S390 nL v0 v1 v2 v3 v4 v5 v6 v7 v8 v9 v10 v11 0)
    else
    (Option.bind (f_L_sort F S390 v0 v9 v12) fun z394 => lt z394.1 fun r396 => lt z394.2 fun S395 =>
    cki r396 (ln S395 v2) <|
    if 0 ≤ (ai S395 v2 (Int32.toNatClampNeg r396)) then
    (f_L_law_L274 F k77 (fun a0 a1 a2 a3 a4 a5 a6 a7 a8 a9 a10 a11 a12 a13 a14 => f_L_law_L224 F k77 fu a0 a1 a2 a3 a4 a5 a6 a7 a8 a9 a10 a11 a12 a13 a14) S395 nL v0 v1 v2 v3 v4 v5 v6 v7 v8 v9 v10 v11 v12 r396)
    else
    (cki r396 (ln S395 v2) <|
    lt (uai S395 v2 (Int32.toNatClampNeg r396) v5) fun S401 =>
    lt (v5 + 1) fun x402 =>
    Option.bind (f_L_part F S401 r396) fun z403 => lt z403.1 fun r405 => lt z403.2 fun S404 =>
    Option.bind (f_J0_length_8abf5 F S404 r405) fun z407 => lt z407.1 fun r409 => lt z407.2 fun S408 =>
    lt (v6 + r409) fun x411 =>
    f_L_law_L274 F k77 (fun a0 a1 a2 a3 a4 a5 a6 a7 a8 a9 a10 a11 a12 a13 a14 => f_L_law_L224 F k77 fu a0 a1 a2 a3 a4 a5 a6 a7 a8 a9 a10 a11 a12 a13 a14) S408 nL v0 v1 v2 v3 v4 x402 x411 v7 v8 v9 v10 v11 v12 r396))
def f_L_law_L209 (F : Nat) (k77 : St → Nat → XS → Nat → Nat → Nat → Nat → Int32 → Int32 → Int32 → Int32 → Int32 → Option (Int32 × St × Nat)) (S0 : St) (nL : Nat) (v0 : XS) (v1 : Nat) (v2 : Nat) (v3 : Nat) (v4 : Nat) (v5 : Int32) (v6 : Int32) (v7 : Int32) (v9 : Int32) (v10 : Int32) (v11 : Int32) (s0 : Int32) (s1 : Int32) (s2 : Int32) : Option (Int32 × St × Nat) :=
  lt (s2 + (s1 + s0)) fun x435 =>
  if 0 ≤ v11 then
  (f_L_law_L224 F k77 F S0 nL v0 v1 v2 v3 v4 v5 v6 v7 x435 v9 v10 v11 0)
  else
  (f_L_law_L523 F k77 S0 nL v0 v1 v2 v3 v4 v5 v6 v7 x435 v9)
def f_L_law_L187 (F : Nat) (k77 : St → Nat → XS → Nat → Nat → Nat → Nat → Int32 → Int32 → Int32 → Int32 → Int32 → Option (Int32 × St × Nat)) (S0 : St) (nL : Nat) (v0 : XS) (v1 : Nat) (v2 : Nat) (v3 : Nat) (v4 : Nat) (v5 : Int32) (v6 : Int32) (v7 : Int32) (v8 : Int32) (v9 : Int32) (v10 : Int32) (v11 : Int32) (s0 : Int32) (s1 : Int32) : Option (Int32 × St × Nat) :=
  if s1 = s0 then
  (Option.bind (f_J6_bitCount_0f7a4 F S0 v10) fun z440 => lt z440.1 fun r442 => lt z440.2 fun S441 =>
  if 0 ≤ v11 then
  (f_L_law_L209 F k77 S441 nL v0 v1 v2 v3 v4 v5 v6 v7 v9 v10 v11 1 r442 v8)
  else
  (f_L_law_L209 F k77 S441 nL v0 v1 v2 v3 v4 v5 v6 v7 v9 v10 v11 0 r442 v8))
  else
  (some (0, S0, nL))
def f_L_law_L143 (F : Nat) (k77 : St → Nat → XS → Nat → Nat → Nat → Nat → Int32 → Int32 → Int32 → Int32 → Int32 → Option (Int32 × St × Nat)) (k90 : St → Nat → XS → Nat → Nat → Nat → Nat → Int32 → Int32 → Int32 → Int32 → Int32 → Int32 → Int32 → Option (Int32 × St × Nat)) (S0 : St) (nL : Nat) (v0 : XS) (v1 : Nat) (v2 : Nat) (v3 : Nat) (v4 : Nat) (v5 : Int32) (v6 : Int32) (v7 : Int32) (v8 : Int32) (v9 : Int32) (v10 : Int32) (v11 : Int32) : Option (Int32 × St × Nat) :=
  lt (v11 + 1) fun x451 =>
  k90 S0 nL v0 v1 v2 v3 v4 v5 v6 v7 v8 v9 v10 x451
def f_L_law_L90 (F : Nat) (k77 : St → Nat → XS → Nat → Nat → Nat → Nat → Int32 → Int32 → Int32 → Int32 → Int32 → Option (Int32 × St × Nat)) : Nat → St → Nat → XS → Nat → Nat → Nat → Nat → Int32 → Int32 → Int32 → Int32 → Int32 → Int32 → Int32 → Option (Int32 × St × Nat)
  | 0, _, _, _, _, _, _, _, _, _, _, _, _, _, _ => none
  | fu + 1, S0, nL, v0, v1, v2, v3, v4, v5, v6, v7, v8, v9, v10, v11 =>
    Option.bind (f_L_users F S0 v0) fun z453 => lt z453.1 fun r455 => lt z453.2 fun S454 =>
    if r455 ≤ v11 then
    (Option.bind (f_L_deliver F S454 nL v1 v0 v9) fun z458 => lt z458.1 fun r460 => lt z458.2.1 fun S459 => lt z458.2.2 fun n461 =>
    Option.bind (f_X10_bounced F S459 v1) fun z474 => lt z474.1 fun r476 => lt z474.2 fun S475 =>
    if ¬ r476 = v10 then
    (some (0, S475, n461))
    else
    (Option.bind (f_L_recipients F S475 v0 v9) fun z479 => lt z479.1 fun r481 => lt z479.2 fun S480 =>
    if ¬ v10 = r481 then
    (f_L_law_L187 F k77 S480 n461 v0 v1 v2 v3 v4 v5 v6 v7 v8 v9 v10 r460 v7 r460)
    else
    (f_L_law_L187 F k77 S480 n461 v0 v1 v2 v3 v4 v5 v6 v7 v8 v9 v10 r460 ((-2)) r460)))
    else
    (Option.bind (f_L_recipients F S454 v0 v9) fun z484 => lt z484.1 fun r486 => lt z484.2 fun S485 =>
    if ¬ ((r486 >>> (v11 &&& 31)) &&& 1) = 1 then
    (f_L_law_L143 F k77 (fun a0 a1 a2 a3 a4 a5 a6 a7 a8 a9 a10 a11 a12 a13 => f_L_law_L90 F k77 fu a0 a1 a2 a3 a4 a5 a6 a7 a8 a9 a10 a11 a12 a13) S485 nL v0 v1 v2 v3 v4 v5 v6 v7 v8 v9 v10 v11)
    else
    (cki v11 (ln S485 v3) <|
    Option.bind (f_L_size F S485 v0 v9) fun z490 => lt z490.1 fun r492 => lt z490.2 fun S491 =>
    Option.bind (f_L_quota F S491 v0 v11) fun z494 => lt z494.1 fun r496 => lt z494.2 fun S495 =>
    if ((ai S485 v3 (Int32.toNatClampNeg v11)) + r492) ≤ r496 then
    (f_L_law_L143 F k77 (fun a0 a1 a2 a3 a4 a5 a6 a7 a8 a9 a10 a11 a12 a13 => f_L_law_L90 F k77 fu a0 a1 a2 a3 a4 a5 a6 a7 a8 a9 a10 a11 a12 a13) S495 nL v0 v1 v2 v3 v4 v5 v6 v7 v8 v9 v10 v11)
    else
    (lt (v10 ||| (1 <<< (v11 &&& 31))) fun x499 =>
    f_L_law_L143 F k77 (fun a0 a1 a2 a3 a4 a5 a6 a7 a8 a9 a10 a11 a12 a13 => f_L_law_L90 F k77 fu a0 a1 a2 a3 a4 a5 a6 a7 a8 a9 a10 a11 a12 a13) S495 nL v0 v1 v2 v3 v4 v5 v6 v7 v8 v9 x499 v11)))
def f_L_law_L77 (F : Nat) : Nat → St → Nat → XS → Nat → Nat → Nat → Nat → Int32 → Int32 → Int32 → Int32 → Int32 → Option (Int32 × St × Nat)
  | 0, _, _, _, _, _, _, _, _, _, _, _, _ => none
  | fu + 1, S0, nL, v0, v1, v2, v3, v4, v5, v6, v7, v8, v9 =>
    if 9 ≤ v9 then
    (Option.bind (f_X10_storedParts F S0 v1) fun z548 => lt z548.1 fun r550 => lt z548.2 fun S549 =>
    if ¬ r550 = v5 then
    (some (0, S549, nL))
    else
    (Option.bind (f_X10_storedBytes F S549 v1) fun z553 => lt z553.1 fun r555 => lt z553.2 fun S554 =>
    if ¬ r555 = v6 then
    (some (0, S554, nL))
    else
    (Option.bind (f_X10_deadBytes F S554 v1) fun z558 => lt z558.1 fun r560 => lt z558.2 fun S559 =>
    if ¬ r560 = 0 then
    (some (0, S559, nL))
    else
    (Option.bind (f_X10_messageCount F S559 v1) fun z563 => lt z563.1 fun r565 => lt z563.2 fun S564 =>
    if ¬ r565 = v7 then
    (some (0, S564, nL))
    else
    (Option.bind (f_X10_eventCount F S564 v1) fun z568 => lt z568.1 fun r570 => lt z568.2 fun S569 =>
    if r570 = v8 then
    (f_L_law_L577 F F S569 nL v0 v1 v2 v3 v4 v6 0)
    else
    (some (0, S569, nL)))))))
    else
    (f_L_law_L90 F (fun a0 a1 a2 a3 a4 a5 a6 a7 a8 a9 a10 a11 => f_L_law_L77 F fu a0 a1 a2 a3 a4 a5 a6 a7 a8 a9 a10 a11) F S0 nL v0 v1 v2 v3 v4 v5 v6 v7 v8 v9 0 0)
def f_L_law (F : Nat) (S0 : St) (n : Nat) (p0 : XS) : Option (Int32 × St × Nat) :=
  lt (nob S0 n) fun S602 => lt (n + 1) fun n603 =>
  Option.bind (f_X10_init F S602 n603 n) fun z606 => lt z606.1 fun S607 => lt z606.2 fun n609 =>
  Option.bind (f_L_load F S607 n609 n p0) fun z616 => lt z616.1 fun r618 => lt z616.2.1 fun S617 => lt z616.2.2 fun n619 =>
  if r618 = 0 then
  (some (0, S617, n619))
  else
  (Option.bind (f_L_errors F SE 0) fun z627 => lt z627.1 fun r629 =>
  if ¬ r629 = 0 then
  (lt (nar S617 n619 6) fun S637 => lt (n619 + 1) fun n638 =>
  cki 0 (ln S637 n619) <|
  lt (uai S637 n619 (Int32.toNatClampNeg 0) ((-1))) fun S644 =>
  cki 1 (ln S644 n619) <|
  lt (uai S644 n619 (Int32.toNatClampNeg 1) ((-1))) fun S646 =>
  cki 2 (ln S646 n619) <|
  lt (uai S646 n619 (Int32.toNatClampNeg 2) ((-1))) fun S648 =>
  cki 3 (ln S648 n619) <|
  lt (uai S648 n619 (Int32.toNatClampNeg 3) ((-1))) fun S650 =>
  cki 4 (ln S650 n619) <|
  lt (uai S650 n619 (Int32.toNatClampNeg 4) ((-1))) fun S652 =>
  cki 5 (ln S652 n619) <|
  lt (uai S652 n619 (Int32.toNatClampNeg 5) ((-1))) fun S654 =>
  lt (nar S654 n638 3) fun S658 => lt (n638 + 1) fun n659 =>
  lt (nar S658 n659 3) fun S669 => lt (n659 + 1) fun n670 =>
  f_L_law_L77 F 12 S669 n670 p0 n n619 n638 n659 0 0 0 0 0)
  else
  (some (0, S617, n619)))
