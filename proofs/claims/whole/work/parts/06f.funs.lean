def f_X5_init (F : Nat) (S0 : St) (n : Nat) (p0 : Nat) (p1 : Int32) : Option (St × Nat) :=
  ck (¬ (if (0 : Int32) < p1 then p1 else (0 : Int32)) < 0 ∧ Int32.toNatClampNeg (if (0 : Int32) < p1 then p1 else (0 : Int32)) ≤ 10) <|
  lt (nar S0 n (Int32.toNatClampNeg (if (0 : Int32) < p1 then p1 else (0 : Int32)))) fun S4 => lt (n + 1) fun n5 =>
  lt (ur S4 400 p0 (some n)) fun S8 =>
  some (S8, n5)
def f_X7_init (F : Nat) (S0 : St) (n : Nat) (p0 : Nat) : Option (St × Nat) :=
  lt (ui S0 601 p0 1) fun S1 =>
  lt (nob S1 n) fun S5 => lt (n + 1) fun n6 =>
  Option.bind (f_X5_init F S5 n6 n ((8 : Int32))) fun z8 => lt z8.1 fun S9 => lt z8.2 fun n11 =>
  lt (ur S9 602 p0 (some n)) fun S15 =>
  lt (nar S15 n11 8) fun S19 => lt (n11 + 1) fun n20 =>
  lt (ur S19 603 p0 (some n11)) fun S22 =>
  lt (nar S22 n20 8) fun S26 => lt (n20 + 1) fun n27 =>
  lt (ur S26 604 p0 (some n20)) fun S29 =>
  lt (nar S29 n27 8) fun S33 => lt (n27 + 1) fun n34 =>
  lt (ur S33 605 p0 (some n27)) fun S36 =>
  lt (nob S36 n34) fun S40 => lt (n34 + 1) fun n41 =>
  Option.bind (f_X5_init F S40 n41 n34 ((10 : Int32))) fun z43 => lt z43.1 fun S44 => lt z43.2 fun n46 =>
  lt (ur S44 606 p0 (some n34)) fun S50 =>
  lt (nar S50 n46 10) fun S54 => lt (n46 + 1) fun n55 =>
  lt (ur S54 607 p0 (some n46)) fun S57 =>
  lt (nar S57 n55 10) fun S61 => lt (n55 + 1) fun n62 =>
  lt (ur S61 608 p0 (some n55)) fun S64 =>
  lt (nob S64 n62) fun S68 => lt (n62 + 1) fun n69 =>
  Option.bind (f_X5_init F S68 n69 n62 ((6 : Int32))) fun z71 => lt z71.1 fun S72 => lt z71.2 fun n74 =>
  lt (ur S72 609 p0 (some n62)) fun S78 =>
  lt (nar S78 n74 6) fun S82 => lt (n74 + 1) fun n83 =>
  lt (ur S82 610 p0 (some n74)) fun S85 =>
  lt (nob S85 n83) fun S89 => lt (n83 + 1) fun n90 =>
  Option.bind (f_X5_init F S89 n90 n83 ((6 : Int32))) fun z92 => lt z92.1 fun S93 => lt z92.2 fun n95 =>
  lt (ur S93 611 p0 (some n83)) fun S99 =>
  lt (nar S99 n95 6) fun S103 => lt (n95 + 1) fun n104 =>
  lt (ur S103 612 p0 (some n95)) fun S106 =>
  lt (nar S106 n104 6) fun S110 => lt (n104 + 1) fun n111 =>
  lt (ur S110 613 p0 (some n104)) fun S113 =>
  lt (nar S113 n111 6) fun S117 => lt (n111 + 1) fun n118 =>
  lt (ur S117 614 p0 (some n111)) fun S120 =>
  lt (nar S120 n118 6) fun S124 => lt (n118 + 1) fun n125 =>
  lt (ur S124 615 p0 (some n118)) fun S127 =>
  some (S127, n125)
def f_X0_init (F : Nat) (S0 : St) (n : Nat) (p0 : Nat) (p1 : Int32) : Option (St × Nat) :=
  ck (¬ (if (0 : Int32) < p1 then p1 else (0 : Int32)) < 0 ∧ Int32.toNatClampNeg (if (0 : Int32) < p1 then p1 else (0 : Int32)) ≤ 2040) <|
  lt (nar S0 n (Int32.toNatClampNeg (if (0 : Int32) < p1 then p1 else (0 : Int32)))) fun S4 => lt (n + 1) fun n5 =>
  lt (ur S4 0 p0 (some n)) fun S8 =>
  some (S8, n5)
def f_X1_init (F : Nat) (S0 : St) (n : Nat) (p0 : Nat) (p1 : Nat) : Option (St × Nat) :=
  lt (ur S0 100 p0 (some p1)) fun S1 =>
  lt (nar S1 n 4) fun S5 => lt (n + 1) fun n6 =>
  lt (ur S5 101 p0 (some n)) fun S8 =>
  lt (nar S8 n6 4) fun S12 => lt (n6 + 1) fun n13 =>
  lt (ur S12 102 p0 (some n6)) fun S15 =>
  some (S15, n13)
def f_X9_init (F : Nat) (S0 : St) (n : Nat) (p0 : Nat) : Option (St × Nat) :=
  lt (nar S0 n 480) fun S4 => lt (n + 1) fun n5 =>
  lt (ur S4 803 p0 (some n)) fun S7 =>
  lt (nar S7 n5 480) fun S11 => lt (n5 + 1) fun n12 =>
  lt (ur S11 804 p0 (some n5)) fun S14 =>
  lt (nar S14 n12 480) fun S18 => lt (n12 + 1) fun n19 =>
  lt (ur S18 805 p0 (some n12)) fun S21 =>
  lt (nar S21 n19 480) fun S25 => lt (n19 + 1) fun n26 =>
  lt (ur S25 806 p0 (some n19)) fun S28 =>
  lt (nob S28 n26) fun S32 => lt (n26 + 1) fun n33 =>
  Option.bind (f_X0_init F S32 n33 n26 ((0 : Int32))) fun z35 => lt z35.1 fun S36 => lt z35.2 fun n38 =>
  lt (ur S36 807 p0 (some n26)) fun S42 =>
  some (S42, n38)
def f_X2_init (F : Nat) (S0 : St) (n : Nat) (p0 : Nat) : Option (St × Nat) :=
  lt (nar S0 n 60) fun S4 => lt (n + 1) fun n5 =>
  lt (ur S4 200 p0 (some n)) fun S7 =>
  lt (nar S7 n5 60) fun S11 => lt (n5 + 1) fun n12 =>
  lt (ur S11 201 p0 (some n5)) fun S14 =>
  lt (nar S14 n12 60) fun S18 => lt (n12 + 1) fun n19 =>
  lt (ur S18 202 p0 (some n12)) fun S21 =>
  some (S21, n19)
def f_X4_init (F : Nat) (S0 : St) (n : Nat) (p0 : Nat) (p1 : Int32) (p2 : Int32) (p3 : Int32) (p4 : Int32) : Option (St × Nat) :=
  lt (ui S0 300 p0 p1) fun S1 =>
  lt (ui S1 301 p0 p2) fun S2 =>
  lt (ui S2 302 p0 p3) fun S3 =>
  ck (¬ (if (0 : Int32) < p4 then p4 else (0 : Int32)) < 0 ∧ Int32.toNatClampNeg (if (0 : Int32) < p4 then p4 else (0 : Int32)) ≤ 4) <|
  lt (nar S3 n (Int32.toNatClampNeg (if (0 : Int32) < p4 then p4 else (0 : Int32)))) fun S7 => lt (n + 1) fun n8 =>
  lt (ur S7 303 p0 (some n)) fun S11 =>
  some (S11, n8)
def f_X8_init (F : Nat) (S0 : St) (n : Nat) (p0 : Nat) (p1 : Nat) : Option (St × Nat) :=
  lt (ur S0 700 p0 (some p1)) fun S1 =>
  lt (nar S1 n 10) fun S5 => lt (n + 1) fun n6 =>
  lt (ur S5 704 p0 (some n)) fun S8 =>
  lt (nar S8 n6 120) fun S12 => lt (n6 + 1) fun n13 =>
  lt (ur S12 706 p0 (some n6)) fun S15 =>
  lt (nar S15 n13 1200) fun S19 => lt (n13 + 1) fun n20 =>
  lt (ur S19 707 p0 (some n13)) fun S22 =>
  lt (nar S22 n20 1200) fun S26 => lt (n20 + 1) fun n27 =>
  lt (ur S26 708 p0 (some n20)) fun S29 =>
  lt (nar S29 n27 1200) fun S33 => lt (n27 + 1) fun n34 =>
  lt (ur S33 709 p0 (some n27)) fun S36 =>
  lt (nob S36 n34) fun S40 => lt (n34 + 1) fun n41 =>
  Option.bind (f_X9_init F S40 n41 n34) fun z43 => lt z43.1 fun S44 => lt z43.2 fun n46 =>
  lt (ur S44 710 p0 (some n34)) fun S50 =>
  lt (nob S50 n46) fun S54 => lt (n46 + 1) fun n55 =>
  Option.bind (f_X2_init F S54 n55 n46) fun z57 => lt z57.1 fun S58 => lt z57.2 fun n60 =>
  lt (ur S58 711 p0 (some n46)) fun S64 =>
  lt (nar S64 n60 1200) fun S68 => lt (n60 + 1) fun n69 =>
  lt (ur S68 712 p0 (some n60)) fun S71 =>
  lt (ui S71 713 p0 1000000000) fun S72 =>
  lt (nar S72 n69 8) fun S76 => lt (n69 + 1) fun n77 =>
  lt (ur S76 714 p0 (some n69)) fun S79 =>
  lt (nob S79 n77) fun S83 => lt (n77 + 1) fun n84 =>
  Option.bind (f_X4_init F S83 n84 n77 (((-1) : Int32)) (((-1) : Int32)) ((0 : Int32)) ((0 : Int32))) fun z86 => lt z86.1 fun S87 => lt z86.2 fun n89 =>
  lt (ur S87 715 p0 (some n77)) fun S93 =>
  some (S93, n89)
def f_X10_init_L800124 (F : Nat) (S0 : St) (nL : Nat) (v0 : Nat) : Option (St × Nat) :=
  lt (nar S0 nL 480) fun S4 => lt (nL + 1) fun n5 =>
  lt (ur S4 910 v0 (some nL)) fun S7 =>
  some (S7, n5)
def f_X10_init (F : Nat) (S0 : St) (n : Nat) (p0 : Nat) : Option (St × Nat) :=
  lt (nob S0 n) fun S18 => lt (n + 1) fun n19 =>
  Option.bind (f_X7_init F S18 n19 n) fun z21 => lt z21.1 fun S22 => lt z21.2 fun n24 =>
  lt (nob S22 n24) fun S31 => lt (n24 + 1) fun n32 =>
  Option.bind (f_X0_init F S31 n32 n24 ((1200 : Int32))) fun z34 => lt z34.1 fun S35 => lt z34.2 fun n37 =>
  lt (ur S35 900 p0 (some n24)) fun S41 =>
  lt (nob S41 n37) fun S45 => lt (n37 + 1) fun n46 =>
  Option.bind (f_X0_init F S45 n46 n37 ((2040 : Int32))) fun z48 => lt z48.1 fun S49 => lt z48.2 fun n51 =>
  lt (ur S49 901 p0 (some n37)) fun S55 =>
  lt (nob S55 n51) fun S59 => lt (n51 + 1) fun n60 =>
  Option.bind (sr S59 900 p0) fun j62 =>
  Option.bind (f_X1_init F S59 n60 n51 j62) fun z63 => lt z63.1 fun S64 => lt z63.2 fun n66 =>
  lt (ur S64 902 p0 (some n51)) fun S70 =>
  lt (ui S70 904 p0 ((-1))) fun S71 =>
  lt (nob S71 n66) fun S75 => lt (n66 + 1) fun n76 =>
  Option.bind (f_X8_init F S75 n76 n66 n) fun z78 => lt z78.1 fun S79 => lt z78.2 fun n81 =>
  lt (ur S79 905 p0 (some n66)) fun S85 =>
  lt (nob S85 n81) fun S89 => lt (n81 + 1) fun n90 =>
  Option.bind (f_X8_init F S89 n90 n81 n) fun z92 => lt z92.1 fun S93 => lt z92.2 fun n95 =>
  lt (ur S93 906 p0 (some n81)) fun S99 =>
  lt (nar S99 n95 6) fun S103 => lt (n95 + 1) fun n104 =>
  lt (ur S103 907 p0 (some n95)) fun S106 =>
  Option.bind (sr S106 907 p0) fun j107 =>
  if (nI (ln S106 j107)) ≤ 0 then
  (f_X10_init_L800124 F S106 n104 p0)
  else
  (Option.bind (sr S106 907 p0) fun j109 =>
  lt (nob S106 n104) fun S113 => lt (n104 + 1) fun n114 =>
  Option.bind (f_X8_init F S113 n114 n104 n) fun z116 => lt z116.1 fun S117 => lt z116.2 fun n119 =>
  cki 0 (ln S117 j109) <|
  lt (uar S117 j109 (Int32.toNatClampNeg 0) (some n104)) fun S124 =>
  lt (0 + 1) fun x125 =>
  Option.bind (sr S124 907 p0) fun j126 =>
  if (nI (ln S124 j126)) ≤ x125 then
  (f_X10_init_L800124 F S124 n119 p0)
  else
  (Option.bind (sr S124 907 p0) fun j128 =>
  lt (nob S124 n119) fun S132 => lt (n119 + 1) fun n133 =>
  Option.bind (f_X8_init F S132 n133 n119 n) fun z135 => lt z135.1 fun S136 => lt z135.2 fun n138 =>
  cki x125 (ln S136 j128) <|
  lt (uar S136 j128 (Int32.toNatClampNeg x125) (some n119)) fun S143 =>
  lt (x125 + 1) fun x144 =>
  Option.bind (sr S143 907 p0) fun j145 =>
  if (nI (ln S143 j145)) ≤ x144 then
  (f_X10_init_L800124 F S143 n138 p0)
  else
  (Option.bind (sr S143 907 p0) fun j147 =>
  lt (nob S143 n138) fun S151 => lt (n138 + 1) fun n152 =>
  Option.bind (f_X8_init F S151 n152 n138 n) fun z154 => lt z154.1 fun S155 => lt z154.2 fun n157 =>
  cki x144 (ln S155 j147) <|
  lt (uar S155 j147 (Int32.toNatClampNeg x144) (some n138)) fun S162 =>
  lt (x144 + 1) fun x163 =>
  Option.bind (sr S162 907 p0) fun j164 =>
  if (nI (ln S162 j164)) ≤ x163 then
  (f_X10_init_L800124 F S162 n157 p0)
  else
  (Option.bind (sr S162 907 p0) fun j166 =>
  lt (nob S162 n157) fun S170 => lt (n157 + 1) fun n171 =>
  Option.bind (f_X8_init F S170 n171 n157 n) fun z173 => lt z173.1 fun S174 => lt z173.2 fun n176 =>
  cki x163 (ln S174 j166) <|
  lt (uar S174 j166 (Int32.toNatClampNeg x163) (some n157)) fun S181 =>
  lt (x163 + 1) fun x182 =>
  Option.bind (sr S181 907 p0) fun j183 =>
  if (nI (ln S181 j183)) ≤ x182 then
  (f_X10_init_L800124 F S181 n176 p0)
  else
  (Option.bind (sr S181 907 p0) fun j185 =>
  lt (nob S181 n176) fun S189 => lt (n176 + 1) fun n190 =>
  Option.bind (f_X8_init F S189 n190 n176 n) fun z192 => lt z192.1 fun S193 => lt z192.2 fun n195 =>
  cki x182 (ln S193 j185) <|
  lt (uar S193 j185 (Int32.toNatClampNeg x182) (some n176)) fun S200 =>
  lt (x182 + 1) fun x201 =>
  Option.bind (sr S200 907 p0) fun j202 =>
  if (nI (ln S200 j202)) ≤ x201 then
  (f_X10_init_L800124 F S200 n195 p0)
  else
  (Option.bind (sr S200 907 p0) fun j204 =>
  lt (nob S200 n195) fun S208 => lt (n195 + 1) fun n209 =>
  Option.bind (f_X8_init F S208 n209 n195 n) fun z211 => lt z211.1 fun S212 => lt z211.2 fun n214 =>
  cki x201 (ln S212 j204) <|
  lt (uar S212 j204 (Int32.toNatClampNeg x201) (some n195)) fun S219 =>
  lt (x201 + 1) fun x220 =>
  Option.bind (sr S219 907 p0) fun j221 =>
  if (nI (ln S219 j221)) ≤ x220 then
  (f_X10_init_L800124 F S219 n214 p0)
  else
  (none)))))))
def f_X0_add (F : Nat) (S0 : St) (p0 : Nat) (p1 : Int32) : Option (St) :=
  if (si S0 1 p0) < 0 then
  (some S0)
  else
  (Option.bind (sr S0 0 p0) fun j2 =>
  if (nI (ln S0 j2)) ≤ (si S0 1 p0) then
  (some S0)
  else
  (Option.bind (sr S0 0 p0) fun j4 =>
  cki (si S0 1 p0) (ln S0 j4) <|
  lt (uai S0 j4 (Int32.toNatClampNeg (si S0 1 p0)) (Int32.toInt8 p1.toInt8.toInt32).toInt32) fun S6 =>
  lt (ui S6 1 p0 ((si S6 1 p0) + 1)) fun S7 =>
  some S7))
def f_X0_addFour (F : Nat) (S0 : St) (p0 : Nat) (p1 : Int32) : Option (St) :=
  Option.bind (f_X0_add F S0 p0 ((p1.toUInt32 >>> ((24 : Int32).toUInt32 &&& Int32.toUInt32 31)).toInt32)) fun S2 =>
  Option.bind (f_X0_add F S2 p0 ((p1.toUInt32 >>> ((16 : Int32).toUInt32 &&& Int32.toUInt32 31)).toInt32)) fun S6 =>
  Option.bind (f_X0_add F S6 p0 ((p1.toUInt32 >>> ((8 : Int32).toUInt32 &&& Int32.toUInt32 31)).toInt32)) fun S10 =>
  Option.bind (f_X0_add F S10 p0 p1) fun S14 =>
  some S14
def f_X10_append (F : Nat) (S0 : St) (p0 : Nat) (p1 : Int32) (p2 : Int32) (p3 : Int32) (p4 : Int32) (p5 : Int32) : Option ((Nat ⊕ Int32) × St) :=
  Option.bind (sr S0 900 p0) fun j1 =>
  if ((si S0 1 j1) + 20) ≤ 1200 then
  (Option.bind (sr S0 900 p0) fun j3 =>
  Option.bind (f_X0_addFour F S0 j3 p1) fun S5 =>
  Option.bind (sr S5 900 p0) fun j8 =>
  Option.bind (f_X0_addFour F S5 j8 p2) fun S10 =>
  Option.bind (sr S10 900 p0) fun j13 =>
  Option.bind (f_X0_addFour F S10 j13 p3) fun S15 =>
  Option.bind (sr S15 900 p0) fun j18 =>
  Option.bind (f_X0_addFour F S15 j18 p4) fun S20 =>
  Option.bind (sr S20 900 p0) fun j23 =>
  Option.bind (f_X0_addFour F S20 j23 p5) fun S25 =>
  Option.bind (sr S25 900 p0) fun j28 =>
  some (.inr (si S25 1 j28), S25))
  else
  (some (.inl 1, S0))
def f_X0_cutTo (F : Nat) (S0 : St) (p0 : Nat) (p1 : Int32) : Option (St) :=
  if p1 < 0 then
  (some S0)
  else
  (if (si S0 1 p0) ≤ p1 then
  (some S0)
  else
  (lt (ui S0 1 p0 p1) fun S3 =>
  some S3))
def f_X10_truncate_L15 (F : Nat) (S0 : St) : Option ((Nat ⊕ Unit) × St) :=
  some (.inl 2, S0)
def f_X10_truncate (F : Nat) (S0 : St) (p0 : Nat) (p1 : Int32) : Option ((Nat ⊕ Unit) × St) :=
  if p1 < 0 then
  (f_X10_truncate_L15 F S0)
  else
  (Option.bind (sr S0 900 p0) fun j2 =>
  if p1 ≤ (si S0 1 j2) then
  (Option.bind (sr S0 900 p0) fun j4 =>
  Option.bind (f_X0_cutTo F S0 j4 p1) fun S6 =>
  some (.inr (), S6))
  else
  (f_X10_truncate_L15 F S0))
def f_X6_init (F : Nat) (S0 : St) (n : Nat) (p0 : Nat) (p1 : Nat) : Option (St × Nat) :=
  lt (ur S0 500 p0 (some p1)) fun S1 =>
  lt (nob S1 n) fun S5 => lt (n + 1) fun n6 =>
  Option.bind (f_X7_init F S5 n6 n) fun z8 => lt z8.1 fun S9 => lt z8.2 fun n11 =>
  lt (ur S9 501 p0 (some n)) fun S15 =>
  lt (ui S15 503 p0 ((-1))) fun S16 =>
  some (S16, n11)
def f_X0_byteAt (F : Nat) (S0 : St) (p0 : Nat) (p1 : Int32) : Option (Int32 × St) :=
  if p1 < 0 then
  (some ((-1), S0))
  else
  (if (si S0 1 p0) ≤ p1 then
  (some ((-1), S0))
  else
  (Option.bind (sr S0 0 p0) fun j3 =>
  if (nI (ln S0 j3)) ≤ p1 then
  (some ((-1), S0))
  else
  (Option.bind (sr S0 0 p0) fun j5 =>
  cki p1 (ln S0 j5) <|
  some ((ai S0 j5 (Int32.toNatClampNeg p1)) &&& 255, S0))))
def f_X6_isBlank (F : Nat) (S0 : St) (p0 : Int32) : Option (Int32 × St) :=
  if p0 = 32 then
  (some (1, S0))
  else
  (if ¬ p0 = 10 then
  (some (0, S0))
  else
  (some (1, S0)))
def f_X10_isLetter (F : Nat) (S0 : St) (p0 : Int32) : Option (Int32 × St) :=
  if p0 < 97 then
  (some (0, S0))
  else
  (if 122 < p0 then
  (some (0, S0))
  else
  (some (1, S0)))
def f_X10_withLetter (F : Nat) (S0 : St) (p0 : Int64) (p1 : Int32) : Option (Int64 × St) :=
  if (lg_cmp p0 ((-1))) = 0 then
  (some ((-1), S0))
  else
  (if (lg_cmp p0 ((7625597484987))) < 0 then
  (some ((p0 * ((27))) + (((p1 - 97) + 1).toInt64), S0))
  else
  (some ((-1), S0)))
def f_X6_readWord_L109 (F : Nat) (k80 : St → Nat → Int32 → Int32 → Option (St)) (S0 : St) (v0 : Nat) (v2 : Int32) (v3 : Int32) : Option (St) :=
  lt (v3 + 1) fun x1 =>
  k80 S0 v0 v2 x1
def f_X6_readWord_L80 (F : Nat) : Nat → St → Nat → Int32 → Int32 → Option (St)
  | 0, _, _, _, _ => none
  | fu + 1, S0, v0, v2, v3 =>
    if v2 ≤ v3 then
    (some S0)
    else
    (cki v3 15 <|
    if ¬ (lg_cmp (kwW.getD (Int32.toNatClampNeg v3) 0) (sl S0 507 v0)) = 0 then
    (f_X6_readWord_L109 F (fun a0 a1 a2 a3 => f_X6_readWord_L80 F fu a0 a1 a2 a3) S0 v0 v2 v3)
    else
    (lt (ur S0 508 v0 (some (Int32.toNatClampNeg v3))) fun S6 =>
    f_X6_readWord_L109 F (fun a0 a1 a2 a3 => f_X6_readWord_L80 F fu a0 a1 a2 a3) S6 v0 v2 v3))
def f_X6_readWord_L71 (F : Nat) (S0 : St) (v0 : Nat) : Option (St) :=
  f_X6_readWord_L80 F F S0 v0 15 0
def f_X6_readWord_L5 (F : Nat) : Nat → St → Nat → Option (St)
  | 0, _, _ => none
  | fu + 1, S0, v0 =>
    Option.bind (sr S0 500 v0) fun j11 =>
    if (si S0 1 j11) ≤ (si S0 504 v0) then
    (f_X6_readWord_L71 F S0 v0)
    else
    (Option.bind (sr S0 500 v0) fun j13 =>
    Option.bind (f_X0_byteAt F S0 j13 (si S0 504 v0)) fun z14 => lt z14.1 fun r16 => lt z14.2 fun S15 =>
    Option.bind (f_X10_isLetter F S15 r16) fun z18 => lt z18.1 fun r20 => lt z18.2 fun S19 =>
    if r20 = 0 then
    (f_X6_readWord_L71 F S19 v0)
    else
    (Option.bind (sr S19 500 v0) fun j23 =>
    Option.bind (f_X0_byteAt F S19 j23 (si S19 504 v0)) fun z24 => lt z24.1 fun r26 => lt z24.2 fun S25 =>
    Option.bind (f_X10_withLetter F S25 (sl S19 507 v0) r26) fun z28 => lt z28.1 fun r30 => lt z28.2 fun S29 =>
    lt (ul S29 507 v0 r30) fun S32 =>
    lt (ui S32 504 v0 ((si S32 504 v0) + 1)) fun S33 =>
    (fun a0 a1 => f_X6_readWord_L5 F fu a0 a1) S33 v0))
def f_X6_readWord (F : Nat) (S0 : St) (p0 : Nat) : Option (St) :=
  lt (ui S0 506 p0 1) fun S57 =>
  f_X6_readWord_L5 F F S57 p0
def f_X10_isDigit (F : Nat) (S0 : St) (p0 : Int32) : Option (Int32 × St) :=
  if p0 < 48 then
  (some (0, S0))
  else
  (if 57 < p0 then
  (some (0, S0))
  else
  (some (1, S0)))
def f_X6_readNumber_L5 (F : Nat) : Nat → St → Nat → Option (St)
  | 0, _, _ => none
  | fu + 1, S0, v0 =>
    Option.bind (sr S0 500 v0) fun j1 =>
    if (si S0 1 j1) ≤ (si S0 504 v0) then
    (some S0)
    else
    (Option.bind (sr S0 500 v0) fun j3 =>
    Option.bind (f_X0_byteAt F S0 j3 (si S0 504 v0)) fun z4 => lt z4.1 fun r6 => lt z4.2 fun S5 =>
    Option.bind (f_X10_isDigit F S5 r6) fun z8 => lt z8.1 fun r10 => lt z8.2 fun S9 =>
    if r10 = 0 then
    (some S9)
    else
    (Option.bind (sr S9 500 v0) fun j13 =>
    Option.bind (f_X0_byteAt F S9 j13 (si S9 504 v0)) fun z14 => lt z14.1 fun r16 => lt z14.2 fun S15 =>
    lt (ui S15 509 v0 (if (((si S9 509 v0) * 10) + (r16 - 48)) < (10000000 : Int32) then (((si S9 509 v0) * 10) + (r16 - 48)) else (10000000 : Int32))) fun S18 =>
    lt (ui S18 504 v0 ((si S18 504 v0) + 1)) fun S19 =>
    (fun a0 a1 => f_X6_readNumber_L5 F fu a0 a1) S19 v0))
def f_X6_readNumber (F : Nat) (S0 : St) (p0 : Nat) : Option (St) :=
  lt (ui S0 506 p0 2) fun S39 =>
  f_X6_readNumber_L5 F F S39 p0
def f_X6_nextToken_L44 (F : Nat) (S0 : St) (v0 : Nat) : Option (St) :=
  lt (ui S0 505 v0 (si S0 504 v0)) fun S1 =>
  lt (ur S1 508 v0 none) fun S2 =>
  lt (ul S2 507 v0 0) fun S3 =>
  lt (ui S3 509 v0 0) fun S4 =>
  Option.bind (sr S4 500 v0) fun j5 =>
  Option.bind (f_X0_byteAt F S4 j5 (si S4 504 v0)) fun z6 => lt z6.1 fun r8 => lt z6.2 fun S7 =>
  Option.bind (sr S7 500 v0) fun j10 =>
  if (si S7 504 v0) < (si S7 1 j10) then
  (Option.bind (f_X10_isLetter F S7 r8) fun z12 => lt z12.1 fun r14 => lt z12.2 fun S13 =>
  if r14 = 0 then
  (Option.bind (f_X10_isDigit F S13 r8) fun z17 => lt z17.1 fun r19 => lt z17.2 fun S18 =>
  if r19 = 0 then
  (lt (ui S18 506 v0 3) fun S22 =>
  lt (ui S22 509 v0 r8) fun S23 =>
  lt (ui S23 504 v0 ((si S23 504 v0) + 1)) fun S24 =>
  some S24)
  else
  (Option.bind (f_X6_readNumber F S18 v0) fun S26 =>
  some S26))
  else
  (Option.bind (f_X6_readWord F S13 v0) fun S30 =>
  some S30))
  else
  (lt (ui S7 506 v0 0) fun S33 =>
  some S33)
def f_X6_nextToken_L0 (F : Nat) : Nat → St → Nat → Option (St)
  | 0, _, _ => none
  | fu + 1, S0, v0 =>
    Option.bind (sr S0 500 v0) fun j67 =>
    if (si S0 1 j67) ≤ (si S0 504 v0) then
    (f_X6_nextToken_L44 F S0 v0)
    else
    (Option.bind (sr S0 500 v0) fun j69 =>
    Option.bind (f_X0_byteAt F S0 j69 (si S0 504 v0)) fun z70 => lt z70.1 fun r72 => lt z70.2 fun S71 =>
    Option.bind (f_X6_isBlank F S71 r72) fun z74 => lt z74.1 fun r76 => lt z74.2 fun S75 =>
    if r76 = 0 then
    (f_X6_nextToken_L44 F S75 v0)
    else
    (lt (ui S75 504 v0 ((si S75 504 v0) + 1)) fun S79 =>
    (fun a0 a1 => f_X6_nextToken_L0 F fu a0 a1) S79 v0))
def f_X6_nextToken (F : Nat) (S0 : St) (p0 : Nat) : Option (St) :=
  f_X6_nextToken_L0 F F S0 p0
def f_X6_fail (F : Nat) (S0 : St) (p0 : Nat) (p1 : Int32) : Option (Int32 × St) :=
  lt (ui S0 502 p0 p1) fun S1 =>
  lt (ui S1 503 p0 (si S1 505 p0)) fun S2 =>
  some (0, S2)
def f_X6_take (F : Nat) (S0 : St) (p0 : Nat) (p1 : Nat) : Option (Int32 × St) :=
  ck ((sr S0 508 p0).getD 0 < 15) <|
  if (sr S0 508 p0) = some p1 then
  (Option.bind (f_X6_nextToken F S0 p0) fun S4 =>
  some (1, S4))
  else
  (Option.bind (f_X6_fail F S0 p0 ((1 : Int32))) fun z7 => lt z7.1 fun r9 => lt z7.2 fun S8 =>
  ck (r9 = 0 ∨ r9 = 1) <| some (r9, S8))
def f_X6_takeNumber_L38 (F : Nat) (S0 : St) (s0 : Int32) (s1 : Nat) : Option (Int32 × St) :=
  Option.bind (f_X6_fail F S0 s1 s0) fun z1 => lt z1.1 fun r3 => lt z1.2 fun S2 =>
  some ((-1), S2)
def f_X6_takeNumber_L24 (F : Nat) (S0 : St) (v0 : Nat) : Option (Int32 × St) :=
  if ¬ (si S0 506 v0) = 2 then
  (f_X6_takeNumber_L38 F S0 1 v0)
  else
  (f_X6_takeNumber_L38 F S0 2 v0)
def f_X6_takeNumber (F : Nat) (S0 : St) (p0 : Nat) (p1 : Int32) (p2 : Int32) : Option (Int32 × St) :=
  if ¬ (si S0 506 p0) = 2 then
  (f_X6_takeNumber_L24 F S0 p0)
  else
  (if (si S0 509 p0) < p1 then
  (f_X6_takeNumber_L24 F S0 p0)
  else
  (if (si S0 509 p0) ≤ p2 then
  (lt (si S0 509 p0) fun x14 =>
  Option.bind (f_X6_nextToken F S0 p0) fun S16 =>
  some (x14, S16))
  else
  (f_X6_takeNumber_L24 F S0 p0)))
def f_X6_isSymbol (F : Nat) (S0 : St) (p0 : Nat) (p1 : Int32) : Option (Int32 × St) :=
  if ¬ (si S0 506 p0) = 3 then
  (some (0, S0))
  else
  (if ¬ (si S0 509 p0) = p1 then
  (some (0, S0))
  else
  (some (1, S0)))
def f_X6_takeSymbol (F : Nat) (S0 : St) (p0 : Nat) (p1 : Int32) : Option (Int32 × St) :=
  Option.bind (f_X6_isSymbol F S0 p0 p1) fun z1 => lt z1.1 fun r3 => lt z1.2 fun S2 =>
  if ¬ r3 = 0 then
  (Option.bind (f_X6_nextToken F S2 p0) fun S7 =>
  some (1, S7))
  else
  (Option.bind (f_X6_fail F S2 p0 ((1 : Int32))) fun z10 => lt z10.1 fun r12 => lt z10.2 fun S11 =>
  ck (r12 = 0 ∨ r12 = 1) <| some (r12, S11))
def f_X6_spoolStatement (F : Nat) (S0 : St) (p0 : Nat) : Option (Int32 × St) :=
  Option.bind (f_X6_take F S0 p0 0) fun z1 => lt z1.1 fun r3 => lt z1.2 fun S2 =>
  if r3 = 0 then
  (some (0, S2))
  else
  (Option.bind (f_X6_take F S2 p0 1) fun z6 => lt z6.1 fun r8 => lt z6.2 fun S7 =>
  if ¬ r8 = 0 then
  (Option.bind (sr S7 501 p0) fun j11 =>
  Option.bind (f_X6_takeNumber F S7 p0 ((0 : Int32)) ((30 : Int32))) fun z12 => lt z12.1 fun r14 => lt z12.2 fun S13 =>
  lt (ui S13 600 j11 r14) fun S16 =>
  Option.bind (sr S16 501 p0) fun j17 =>
  if (si S16 600 j17) = ((-1)) then
  (some (0, S16))
  else
  (Option.bind (f_X6_take F S16 p0 2) fun z19 => lt z19.1 fun r21 => lt z19.2 fun S20 =>
  if ¬ r21 = 0 then
  (Option.bind (sr S20 501 p0) fun j24 =>
  Option.bind (f_X6_takeNumber F S20 p0 ((1 : Int32)) ((30 : Int32))) fun z25 => lt z25.1 fun r27 => lt z25.2 fun S26 =>
  lt (ui S26 601 j24 r27) fun S29 =>
  Option.bind (sr S29 501 p0) fun j30 =>
  if (si S29 601 j30) = ((-1)) then
  (some (0, S29))
  else
  (Option.bind (f_X6_takeSymbol F S29 p0 ((59 : Int32))) fun z32 => lt z32.1 fun r34 => lt z32.2 fun S33 =>
  if r34 = 0 then
  (some (0, S33))
  else
  (some (1, S33))))
  else
  (some (0, S20))))
  else
  (some (0, S7)))
def f_X5_isFull (F : Nat) (S0 : St) (p0 : Nat) : Option (Int32 × St) :=
  Option.bind (sr S0 400 p0) fun j1 =>
  if (si S0 401 p0) < (nI (ln S0 j1)) then
  (some (0, S0))
  else
  (some (1, S0))
def f_X6_isName (F : Nat) (S0 : St) (p0 : Nat) : Option (Int32 × St) :=
  if ¬ (si S0 506 p0) = 1 then
  (some (0, S0))
  else
  (if ¬ (sr S0 508 p0) = none then
  (some (0, S0))
  else
  (if (lg_cmp (sl S0 507 p0) 0) ≤ 0 then
  (some (0, S0))
  else
  (if 0 ≤ (lg_cmp (sl S0 507 p0) ((387420489))) then
  (some (0, S0))
  else
  (some (1, S0)))))
def f_X5_numberOf_L2 (F : Nat) : Nat → St → Nat → Int64 → Int32 → Option (Int32 × St)
  | 0, _, _, _, _ => none
  | fu + 1, S0, v0, v1, v3 =>
    if (si S0 401 v0) ≤ v3 then
    (some ((-1), S0))
    else
    (Option.bind (sr S0 400 v0) fun j2 =>
    if (nI (ln S0 j2)) ≤ v3 then
    (some ((-1), S0))
    else
    (Option.bind (sr S0 400 v0) fun j4 =>
    cki v3 (ln S0 j4) <|
    if ¬ (lg_cmp (al S0 j4 (Int32.toNatClampNeg v3)) v1) = 0 then
    (lt (v3 + 1) fun x7 =>
    (fun a0 a1 a2 a3 => f_X5_numberOf_L2 F fu a0 a1 a2 a3) S0 v0 v1 x7)
    else
    (some (v3, S0))))
def f_X5_numberOf (F : Nat) (S0 : St) (p0 : Nat) (p1 : Int64) : Option (Int32 × St) :=
  f_X5_numberOf_L2 F F S0 p0 p1 0
def f_X6_takeNewName_L39 (F : Nat) (S0 : St) (v0 : Nat) : Option (Int64 × St) :=
  Option.bind (f_X6_fail F S0 v0 ((3 : Int32))) fun z1 => lt z1.1 fun r3 => lt z1.2 fun S2 =>
  some (0, S2)
def f_X6_takeNewName (F : Nat) (S0 : St) (p0 : Nat) (p1 : Nat) (p2 : Nat) : Option (Int64 × St) :=
  Option.bind (f_X6_isName F S0 p0) fun z9 => lt z9.1 fun r11 => lt z9.2 fun S10 =>
  if ¬ r11 = 0 then
  (Option.bind (f_X5_numberOf F S10 p1 (sl S10 507 p0)) fun z14 => lt z14.1 fun r16 => lt z14.2 fun S15 =>
  if ¬ r16 = ((-1)) then
  (f_X6_takeNewName_L39 F S15 p0)
  else
  (Option.bind (f_X5_numberOf F S15 p2 (sl S15 507 p0)) fun z19 => lt z19.1 fun r21 => lt z19.2 fun S20 =>
  if r21 = ((-1)) then
  (lt (sl S20 507 p0) fun x24 =>
  Option.bind (f_X6_nextToken F S20 p0) fun S26 =>
  some (x24, S26))
  else
  (f_X6_takeNewName_L39 F S20 p0)))
  else
  (Option.bind (f_X6_fail F S10 p0 ((1 : Int32))) fun z29 => lt z29.1 fun r31 => lt z29.2 fun S30 =>
  some (0, S30))
def f_X6_takeKnown_L38 (F : Nat) (S0 : St) (s0 : Int32) (s1 : Nat) : Option (Int32 × St) :=
  Option.bind (f_X6_fail F S0 s1 s0) fun z1 => lt z1.1 fun r3 => lt z1.2 fun S2 =>
  some ((-1), S2)
def f_X6_takeKnown_L19 (F : Nat) (S0 : St) (v0 : Nat) (s0 : Int32) : Option (Int32 × St) :=
  if ¬ s0 = ((-1)) then
  (Option.bind (f_X6_nextToken F S0 v0) fun S11 =>
  some (s0, S11))
  else
  (Option.bind (f_X6_isName F S0 v0) fun z14 => lt z14.1 fun r16 => lt z14.2 fun S15 =>
  if r16 = 0 then
  (f_X6_takeKnown_L38 F S15 1 v0)
  else
  (f_X6_takeKnown_L38 F S15 3 v0))
def f_X6_takeKnown (F : Nat) (S0 : St) (p0 : Nat) (p1 : Nat) : Option (Int32 × St) :=
  Option.bind (f_X6_isName F S0 p0) fun z29 => lt z29.1 fun r31 => lt z29.2 fun S30 =>
  if r31 = 0 then
  (f_X6_takeKnown_L19 F S30 p0 ((-1)))
  else
  (Option.bind (f_X5_numberOf F S30 p1 (sl S30 507 p0)) fun z34 => lt z34.1 fun r36 => lt z34.2 fun S35 =>
  f_X6_takeKnown_L19 F S35 p0 r36)
def f_X5_add (F : Nat) (S0 : St) (p0 : Nat) (p1 : Int64) : Option (Int32 × St) :=
  lt (si S0 401 p0) fun x1 =>
  if x1 < 0 then
  (some (x1, S0))
  else
  (Option.bind (sr S0 400 p0) fun j3 =>
  if (nI (ln S0 j3)) ≤ x1 then
  (some (x1, S0))
  else
  (Option.bind (sr S0 400 p0) fun j5 =>
  cki x1 (ln S0 j5) <|
  lt (ual S0 j5 (Int32.toNatClampNeg x1) p1) fun S7 =>
  lt (ui S7 401 p0 ((si S7 401 p0) + 1)) fun S8 =>
  some (x1, S8)))
def f_X10_put (F : Nat) (S0 : St) (p0 : Nat) (p1 : Int32) (p2 : Int32) : Option (St) :=
  if p1 < 0 then
  (some S0)
  else
  (if (nI (ln S0 p0)) ≤ p1 then
  (some S0)
  else
  (cki p1 (ln S0 p0) <|
  lt (uai S0 p0 (Int32.toNatClampNeg p1) p2) fun S4 =>
  some S4))
def f_X7_addClass (F : Nat) (S0 : St) (p0 : Nat) (p1 : Int64) (p2 : Int32) (p3 : Int32) (p4 : Int32) : Option (St) :=
  Option.bind (sr S0 602 p0) fun j1 =>
  Option.bind (f_X5_add F S0 j1 p1) fun z2 => lt z2.1 fun r4 => lt z2.2 fun S3 =>
  Option.bind (sr S3 603 p0) fun j6 =>
  Option.bind (f_X10_put F S3 j6 r4 p2) fun S8 =>
  Option.bind (sr S8 604 p0) fun j11 =>
  Option.bind (f_X10_put F S8 j11 r4 p3) fun S13 =>
  Option.bind (sr S13 605 p0) fun j16 =>
  Option.bind (f_X10_put F S13 j16 r4 p4) fun S18 =>
  some S18
def f_X6_classStatement_L167 (F : Nat) (S0 : St) (v0 : Nat) (v1 : Int64) (v3 : Int32) (v4 : Int32) (v5 : Int32) : Option (Int32 × St) :=
  Option.bind (f_X6_takeSymbol F S0 v0 ((59 : Int32))) fun z1 => lt z1.1 fun r3 => lt z1.2 fun S2 =>
  if ¬ r3 = 0 then
  (Option.bind (sr S2 501 v0) fun j6 =>
  Option.bind (f_X7_addClass F S2 j6 v1 v3 v4 v5) fun S8 =>
  some (1, S8))
  else
  (some (0, S2))
def f_X6_classStatement_L129 (F : Nat) (S0 : St) (v0 : Nat) (v1 : Int64) (v3 : Int32) (v4 : Int32) : Option (Int32 × St) :=
  lt ((-1)) fun x21 =>
  ck ((sr S0 508 v0).getD 0 < 15) <|
  if ¬ (sr S0 508 v0) = some 7 then
  (f_X6_classStatement_L167 F S0 v0 v1 v3 v4 x21)
  else
  (Option.bind (f_X6_nextToken F S0 v0) fun S25 =>
  Option.bind (sr S25 501 v0) fun j28 =>
  Option.bind (sr S25 602 j28) fun j29 =>
  Option.bind (f_X6_takeKnown F S25 v0 j29) fun z30 => lt z30.1 fun r32 => lt z30.2 fun S31 =>
  if ¬ r32 = ((-1)) then
  (f_X6_classStatement_L167 F S31 v0 v1 v3 v4 r32)
  else
  (some (0, S31)))
def f_X6_classStatement_L95 (F : Nat) (S0 : St) (v0 : Nat) (v1 : Int64) (v3 : Int32) : Option (Int32 × St) :=
  ck ((sr S0 508 v0).getD 0 < 15) <|
  if ¬ (sr S0 508 v0) = some 6 then
  (f_X6_classStatement_L129 F S0 v0 v1 v3 0)
  else
  (Option.bind (f_X6_nextToken F S0 v0) fun S52 =>
  Option.bind (f_X6_takeNumber F S52 v0 ((1 : Int32)) ((99 : Int32))) fun z55 => lt z55.1 fun r57 => lt z55.2 fun S56 =>
  if ¬ r57 = ((-1)) then
  (f_X6_classStatement_L129 F S56 v0 v1 v3 r57)
  else
  (some (0, S56)))
def f_X6_classStatement (F : Nat) (S0 : St) (p0 : Nat) : Option (Int32 × St) :=
  Option.bind (sr S0 501 p0) fun j71 =>
  Option.bind (sr S0 602 j71) fun j72 =>
  Option.bind (f_X5_isFull F S0 j72) fun z73 => lt z73.1 fun r75 => lt z73.2 fun S74 =>
  if r75 = 0 then
  (Option.bind (f_X6_nextToken F S74 p0) fun S79 =>
  Option.bind (sr S79 501 p0) fun j82 =>
  Option.bind (sr S79 602 j82) fun j83 =>
  Option.bind (sr S79 501 p0) fun j84 =>
  Option.bind (sr S79 602 j84) fun j85 =>
  Option.bind (f_X6_takeNewName F S79 p0 j83 j85) fun z86 => lt z86.1 fun r88 => lt z86.2 fun S87 =>
  if (lg_cmp r88 0) = 0 then
  (some (0, S87))
  else
  (Option.bind (f_X6_take F S87 p0 4) fun z91 => lt z91.1 fun r93 => lt z91.2 fun S92 =>
  if ¬ r93 = 0 then
  (lt ((-1)) fun x96 =>
  ck ((sr S92 508 p0).getD 0 < 15) <|
  if ¬ (sr S92 508 p0) = some 5 then
  (Option.bind (f_X6_takeNumber F S92 p0 ((1 : Int32)) ((999 : Int32))) fun z99 => lt z99.1 fun r101 => lt z99.2 fun S100 =>
  if ¬ r101 = ((-1)) then
  (f_X6_classStatement_L95 F S100 p0 r88 r101)
  else
  (some (0, S100)))
  else
  (Option.bind (f_X6_nextToken F S92 p0) fun S105 =>
  f_X6_classStatement_L95 F S105 p0 r88 x96))
  else
  (some (0, S92))))
  else
  (Option.bind (f_X6_fail F S74 p0 ((4 : Int32))) fun z108 => lt z108.1 fun r110 => lt z108.2 fun S109 =>
  ck (r110 = 0 ∨ r110 = 1) <| some (r110, S109))
def f_X7_addUser (F : Nat) (S0 : St) (p0 : Nat) (p1 : Int64) (p2 : Int32) (p3 : Int32) : Option (St) :=
  Option.bind (sr S0 606 p0) fun j1 =>
  Option.bind (f_X5_add F S0 j1 p1) fun z2 => lt z2.1 fun r4 => lt z2.2 fun S3 =>
  Option.bind (sr S3 607 p0) fun j6 =>
  Option.bind (f_X10_put F S3 j6 r4 p2) fun S8 =>
  Option.bind (sr S8 608 p0) fun j11 =>
  Option.bind (f_X10_put F S8 j11 r4 p3) fun S13 =>
  some S13
def f_X6_userStatement_L26 (F : Nat) (S0 : St) (v0 : Nat) : Option (Int32 × St) :=
  Option.bind (f_X6_fail F S0 v0 ((4 : Int32))) fun z1 => lt z1.1 fun r3 => lt z1.2 fun S2 =>
  ck (r3 = 0 ∨ r3 = 1) <| some (r3, S2)
def f_X6_userStatement (F : Nat) (S0 : St) (p0 : Nat) : Option (Int32 × St) :=
  Option.bind (sr S0 501 p0) fun j11 =>
  Option.bind (sr S0 606 j11) fun j12 =>
  Option.bind (f_X5_isFull F S0 j12) fun z13 => lt z13.1 fun r15 => lt z13.2 fun S14 =>
  if ¬ r15 = 0 then
  (f_X6_userStatement_L26 F S14 p0)
  else
  (Option.bind (sr S14 501 p0) fun j18 =>
  Option.bind (sr S14 602 j18) fun j19 =>
  if ¬ (si S14 401 j19) = 0 then
  (Option.bind (f_X6_nextToken F S14 p0) fun S22 =>
  Option.bind (sr S22 501 p0) fun j25 =>
  Option.bind (sr S22 606 j25) fun j26 =>
  Option.bind (sr S22 501 p0) fun j27 =>
  Option.bind (sr S22 609 j27) fun j28 =>
  Option.bind (f_X6_takeNewName F S22 p0 j26 j28) fun z29 => lt z29.1 fun r31 => lt z29.2 fun S30 =>
  if (lg_cmp r31 0) = 0 then
  (some (0, S30))
  else
  (Option.bind (f_X6_take F S30 p0 3) fun z34 => lt z34.1 fun r36 => lt z34.2 fun S35 =>
  if ¬ r36 = 0 then
  (Option.bind (sr S35 501 p0) fun j39 =>
  Option.bind (sr S35 602 j39) fun j40 =>
  Option.bind (f_X6_takeKnown F S35 p0 j40) fun z41 => lt z41.1 fun r43 => lt z41.2 fun S42 =>
  if r43 = ((-1)) then
  (some (0, S42))
  else
  (Option.bind (f_X6_take F S42 p0 9) fun z46 => lt z46.1 fun r48 => lt z46.2 fun S47 =>
  if ¬ r48 = 0 then
  (Option.bind (f_X6_takeNumber F S47 p0 ((1 : Int32)) ((99999 : Int32))) fun z51 => lt z51.1 fun r53 => lt z51.2 fun S52 =>
  if r53 = ((-1)) then
  (some (0, S52))
  else
  (Option.bind (f_X6_takeSymbol F S52 p0 ((59 : Int32))) fun z56 => lt z56.1 fun r58 => lt z56.2 fun S57 =>
  if ¬ r58 = 0 then
  (Option.bind (sr S57 501 p0) fun j61 =>
  Option.bind (f_X7_addUser F S57 j61 r31 r43 r53) fun S63 =>
  some (1, S63))
  else
  (some (0, S57))))
  else
  (some (0, S47))))
  else
  (some (0, S35))))
  else
  (f_X6_userStatement_L26 F S14 p0))
def f_X10_at (F : Nat) (S0 : St) (p0 : Nat) (p1 : Int32) : Option (Int32 × St) :=
  if p1 < 0 then
  (some ((-1), S0))
  else
  (if (nI (ln S0 p0)) ≤ p1 then
  (some ((-1), S0))
  else
  (cki p1 (ln S0 p0) <|
  some (ai S0 p0 (Int32.toNatClampNeg p1), S0)))
def f_X6_takeMember_L81 (F : Nat) (S0 : St) (v0 : Nat) (v1 : Int32) (v2 : Int32) : Option (Int32 × St) :=
  Option.bind (f_X6_nextToken F S0 v0) fun S2 =>
  if ¬ v1 = ((-1)) then
  (some (1 <<< (v1 &&& 31), S2))
  else
  (Option.bind (sr S2 501 v0) fun j6 =>
  Option.bind (sr S2 610 j6) fun j7 =>
  Option.bind (f_X10_at F S2 j7 v2) fun z8 => lt z8.1 fun r10 => lt z8.2 fun S9 =>
  some (r10, S9))
def f_X6_takeMember_L75 (F : Nat) (S0 : St) (s0 : Int32) (s1 : Nat) : Option (Int32 × St) :=
  Option.bind (f_X6_fail F S0 s1 s0) fun z23 => lt z23.1 fun r25 => lt z23.2 fun S24 =>
  some (0, S24)
def f_X6_takeMember_L51 (F : Nat) (S0 : St) (v0 : Nat) (v1 : Int32) (s0 : Int32) : Option (Int32 × St) :=
  if ¬ v1 = ((-1)) then
  (f_X6_takeMember_L81 F S0 v0 v1 s0)
  else
  (if ¬ s0 = ((-1)) then
  (f_X6_takeMember_L81 F S0 v0 v1 s0)
  else
  (Option.bind (f_X6_isName F S0 v0) fun z33 => lt z33.1 fun r35 => lt z33.2 fun S34 =>
  if r35 = 0 then
  (f_X6_takeMember_L75 F S34 1 v0)
  else
  (f_X6_takeMember_L75 F S34 3 v0)))
def f_X6_takeMember_L25 (F : Nat) (S0 : St) (v0 : Nat) (s0 : Int32) : Option (Int32 × St) :=
  Option.bind (f_X6_isName F S0 v0) fun z45 => lt z45.1 fun r47 => lt z45.2 fun S46 =>
  if r47 = 0 then
  (f_X6_takeMember_L51 F S46 v0 s0 ((-1)))
  else
  (Option.bind (sr S46 501 v0) fun j50 =>
  Option.bind (sr S46 609 j50) fun j51 =>
  Option.bind (f_X5_numberOf F S46 j51 (sl S46 507 v0)) fun z52 => lt z52.1 fun r54 => lt z52.2 fun S53 =>
  f_X6_takeMember_L51 F S53 v0 s0 r54)
def f_X6_takeMember (F : Nat) (S0 : St) (p0 : Nat) : Option (Int32 × St) :=
  Option.bind (f_X6_isName F S0 p0) fun z67 => lt z67.1 fun r69 => lt z67.2 fun S68 =>
  if r69 = 0 then
  (f_X6_takeMember_L25 F S68 p0 ((-1)))
  else
  (Option.bind (sr S68 501 p0) fun j72 =>
  Option.bind (sr S68 606 j72) fun j73 =>
  Option.bind (f_X5_numberOf F S68 j73 (sl S68 507 p0)) fun z74 => lt z74.1 fun r76 => lt z74.2 fun S75 =>
  f_X6_takeMember_L25 F S75 p0 r76)
def f_X7_addGroup (F : Nat) (S0 : St) (p0 : Nat) (p1 : Int64) (p2 : Int32) : Option (St) :=
  Option.bind (sr S0 610 p0) fun j1 =>
  Option.bind (sr S0 609 p0) fun j2 =>
  Option.bind (f_X5_add F S0 j2 p1) fun z3 => lt z3.1 fun r5 => lt z3.2 fun S4 =>
  Option.bind (f_X10_put F S4 j1 r5 p2) fun S8 =>
  some S8
def f_X6_groupStatement_L126 (F : Nat) (S0 : St) (v0 : Nat) (v1 : Int64) (v3 : Int32) : Option (Int32 × St) :=
  Option.bind (f_X6_takeSymbol F S0 v0 ((59 : Int32))) fun z1 => lt z1.1 fun r3 => lt z1.2 fun S2 =>
  if ¬ r3 = 0 then
  (Option.bind (sr S2 501 v0) fun j6 =>
  Option.bind (f_X7_addGroup F S2 j6 v1 v3) fun S8 =>
  some (1, S8))
  else
  (some (0, S2))
def f_X6_groupStatement_L77 (F : Nat) : Nat → St → Nat → Int64 → Int32 → Int32 → Option (Int32 × St)
  | 0, _, _, _, _, _ => none
  | fu + 1, S0, v0, v1, v3, v4 =>
    Option.bind (sr S0 500 v0) fun j21 =>
    if (si S0 1 j21) ≤ v4 then
    (f_X6_groupStatement_L126 F S0 v0 v1 v3)
    else
    (Option.bind (f_X6_isSymbol F S0 v0 ((44 : Int32))) fun z23 => lt z23.1 fun r25 => lt z23.2 fun S24 =>
    if r25 = 0 then
    (f_X6_groupStatement_L126 F S24 v0 v1 v3)
    else
    (Option.bind (f_X6_nextToken F S24 v0) fun S29 =>
    Option.bind (f_X6_takeMember F S29 v0) fun z32 => lt z32.1 fun r34 => lt z32.2 fun S33 =>
    if ¬ r34 = 0 then
    (lt (v3 ||| r34) fun x37 =>
    lt (v4 + 1) fun x38 =>
    (fun a0 a1 a2 a3 a4 => f_X6_groupStatement_L77 F fu a0 a1 a2 a3 a4) S33 v0 v1 x37 x38)
    else
    (some (0, S33))))
def f_X6_groupStatement_L26 (F : Nat) (S0 : St) (v0 : Nat) : Option (Int32 × St) :=
  Option.bind (f_X6_fail F S0 v0 ((4 : Int32))) fun z57 => lt z57.1 fun r59 => lt z57.2 fun S58 =>
  ck (r59 = 0 ∨ r59 = 1) <| some (r59, S58)
def f_X6_groupStatement (F : Nat) (S0 : St) (p0 : Nat) : Option (Int32 × St) :=
  Option.bind (sr S0 501 p0) fun j67 =>
  Option.bind (sr S0 609 j67) fun j68 =>
  Option.bind (f_X5_isFull F S0 j68) fun z69 => lt z69.1 fun r71 => lt z69.2 fun S70 =>
  if ¬ r71 = 0 then
  (f_X6_groupStatement_L26 F S70 p0)
  else
  (Option.bind (sr S70 501 p0) fun j74 =>
  Option.bind (sr S70 606 j74) fun j75 =>
  if ¬ (si S70 401 j75) = 0 then
  (Option.bind (f_X6_nextToken F S70 p0) fun S78 =>
  Option.bind (sr S78 501 p0) fun j81 =>
  Option.bind (sr S78 606 j81) fun j82 =>
  Option.bind (sr S78 501 p0) fun j83 =>
  Option.bind (sr S78 609 j83) fun j84 =>
  Option.bind (f_X6_takeNewName F S78 p0 j82 j84) fun z85 => lt z85.1 fun r87 => lt z85.2 fun S86 =>
  if ¬ (lg_cmp r87 0) = 0 then
  (Option.bind (f_X6_takeMember F S86 p0) fun z90 => lt z90.1 fun r92 => lt z90.2 fun S91 =>
  if ¬ r92 = 0 then
  (f_X6_groupStatement_L77 F F S91 p0 r87 r92 0)
  else
  (some (0, S91)))
  else
  (some (0, S86)))
  else
  (f_X6_groupStatement_L26 F S70 p0))
def f_X6_takeWord_L19 (F : Nat) (S0 : St) (v0 : Nat) : Option (Int64 × St) :=
  Option.bind (f_X6_fail F S0 v0 ((1 : Int32))) fun z1 => lt z1.1 fun r3 => lt z1.2 fun S2 =>
  some (0, S2)
def f_X6_takeWord (F : Nat) (S0 : St) (p0 : Nat) : Option (Int64 × St) :=
  if ¬ (si S0 506 p0) = 1 then
  (f_X6_takeWord_L19 F S0 p0)
  else
  (if ¬ (lg_cmp (sl S0 507 p0) ((-1))) = 0 then
  (lt (sl S0 507 p0) fun x11 =>
  Option.bind (f_X6_nextToken F S0 p0) fun S13 =>
  some (x11, S13))
  else
  (f_X6_takeWord_L19 F S0 p0))
def f_X7_addHold (F : Nat) (S0 : St) (p0 : Nat) (p1 : Int64) (p2 : Int32) (p3 : Int32) (p4 : Int32) (p5 : Int64) : Option (St) :=
  Option.bind (sr S0 611 p0) fun j1 =>
  Option.bind (f_X5_add F S0 j1 p1) fun z2 => lt z2.1 fun r4 => lt z2.2 fun S3 =>
  Option.bind (sr S3 612 p0) fun j6 =>
  Option.bind (f_X10_put F S3 j6 r4 p2) fun S8 =>
  Option.bind (sr S8 613 p0) fun j11 =>
  Option.bind (f_X10_put F S8 j11 r4 p3) fun S13 =>
  Option.bind (sr S13 614 p0) fun j16 =>
  Option.bind (f_X10_put F S13 j16 r4 p4) fun S18 =>
  if r4 < 0 then
  (some S18)
  else
  (Option.bind (sr S18 615 p0) fun j22 =>
  if (nI (ln S18 j22)) ≤ r4 then
  (some S18)
  else
  (Option.bind (sr S18 615 p0) fun j24 =>
  cki r4 (ln S18 j24) <|
  lt (ual S18 j24 (Int32.toNatClampNeg r4) p5) fun S26 =>
  some S26))
def f_X6_holdStatement_L192 (F : Nat) (S0 : St) (v0 : Nat) (v1 : Int64) (v3 : Int32) (v4 : Int32) (v5 : Int32) (v6 : Int64) : Option (Int32 × St) :=
  Option.bind (f_X6_takeSymbol F S0 v0 ((59 : Int32))) fun z1 => lt z1.1 fun r3 => lt z1.2 fun S2 =>
  if ¬ r3 = 0 then
  (Option.bind (sr S2 501 v0) fun j6 =>
  Option.bind (f_X7_addHold F S2 j6 v1 v3 v4 v5 v6) fun S8 =>
  some (1, S8))
  else
  (some (0, S2))
def f_X6_holdStatement_L160 (F : Nat) (S0 : St) (v0 : Nat) (v1 : Int64) (v3 : Int32) (v4 : Int32) (v5 : Int32) : Option (Int32 × St) :=
  ck ((sr S0 508 v0).getD 0 < 15) <|
  if ¬ (sr S0 508 v0) = some 14 then
  (f_X6_holdStatement_L192 F S0 v0 v1 v3 v4 v5 0)
  else
  (Option.bind (f_X6_nextToken F S0 v0) fun S24 =>
  Option.bind (f_X6_takeWord F S24 v0) fun z27 => lt z27.1 fun r29 => lt z27.2 fun S28 =>
  if ¬ (lg_cmp r29 0) = 0 then
  (f_X6_holdStatement_L192 F S28 v0 v1 v3 v4 v5 r29)
  else
  (some (0, S28)))
def f_X6_holdStatement_L26 (F : Nat) (S0 : St) (v0 : Nat) : Option (Int32 × St) :=
  Option.bind (f_X6_fail F S0 v0 ((4 : Int32))) fun z43 => lt z43.1 fun r45 => lt z43.2 fun S44 =>
  ck (r45 = 0 ∨ r45 = 1) <| some (r45, S44)
def f_X6_holdStatement (F : Nat) (S0 : St) (p0 : Nat) : Option (Int32 × St) :=
  Option.bind (sr S0 501 p0) fun j53 =>
  Option.bind (sr S0 611 j53) fun j54 =>
  Option.bind (f_X5_isFull F S0 j54) fun z55 => lt z55.1 fun r57 => lt z55.2 fun S56 =>
  if ¬ r57 = 0 then
  (f_X6_holdStatement_L26 F S56 p0)
  else
  (Option.bind (sr S56 501 p0) fun j60 =>
  Option.bind (sr S56 606 j60) fun j61 =>
  if ¬ (si S56 401 j61) = 0 then
  (Option.bind (f_X6_nextToken F S56 p0) fun S64 =>
  Option.bind (sr S64 501 p0) fun j67 =>
  Option.bind (sr S64 611 j67) fun j68 =>
  Option.bind (sr S64 501 p0) fun j69 =>
  Option.bind (sr S64 611 j69) fun j70 =>
  Option.bind (f_X6_takeNewName F S64 p0 j68 j70) fun z71 => lt z71.1 fun r73 => lt z71.2 fun S72 =>
  if (lg_cmp r73 0) = 0 then
  (some (0, S72))
  else
  (Option.bind (f_X6_take F S72 p0 8) fun z76 => lt z76.1 fun r78 => lt z76.2 fun S77 =>
  if ¬ r78 = 0 then
  (Option.bind (sr S77 501 p0) fun j81 =>
  Option.bind (sr S77 606 j81) fun j82 =>
  Option.bind (f_X6_takeKnown F S77 p0 j82) fun z83 => lt z83.1 fun r85 => lt z83.2 fun S84 =>
  if ¬ r85 = ((-1)) then
  (ck ((sr S84 508 p0).getD 0 < 15) <|
  if ¬ (sr S84 508 p0) = some 12 then
  (f_X6_holdStatement_L160 F S84 p0 r73 r85 0 1000000000)
  else
  (Option.bind (f_X6_nextToken F S84 p0) fun S91 =>
  Option.bind (f_X6_takeNumber F S91 p0 ((0 : Int32)) ((9999 : Int32))) fun z94 => lt z94.1 fun r96 => lt z94.2 fun S95 =>
  if r96 = ((-1)) then
  (some (0, S95))
  else
  (Option.bind (f_X6_take F S95 p0 13) fun z99 => lt z99.1 fun r101 => lt z99.2 fun S100 =>
  if ¬ r101 = 0 then
  (Option.bind (f_X6_takeNumber F S100 p0 r96 ((9999 : Int32))) fun z104 => lt z104.1 fun r106 => lt z104.2 fun S105 =>
  if ¬ r106 = ((-1)) then
  (f_X6_holdStatement_L160 F S105 p0 r73 r85 r96 r106)
  else
  (some (0, S105)))
  else
  (some (0, S100)))))
  else
  (some (0, S84)))
  else
  (some (0, S77))))
  else
  (f_X6_holdStatement_L26 F S56 p0))
def f_X6_parse_L111 (F : Nat) (k11 : St → Nat → Int32 → Int32 → Option (Int32 × St)) (S0 : St) (v0 : Nat) (v1 : Int32) (v2 : Int32) : Option (Int32 × St) :=
  lt (v2 + 1) fun x1 =>
  k11 S0 v0 v1 x1
def f_X6_parse_L11 (F : Nat) : Nat → St → Nat → Int32 → Int32 → Option (Int32 × St)
  | 0, _, _, _, _ => none
  | fu + 1, S0, v0, v1, v2 =>
    Option.bind (sr S0 500 v0) fun j3 =>
    if (si S0 1 j3) ≤ v2 then
    (ck (v1 = 0 ∨ v1 = 1) <| some (v1, S0))
    else
    (if v1 = 0 then
    (ck (v1 = 0 ∨ v1 = 1) <| some (v1, S0))
    else
    (if (si S0 506 v0) = 0 then
    (ck (v1 = 0 ∨ v1 = 1) <| some (v1, S0))
    else
    (ck ((sr S0 508 v0).getD 0 < 15) <|
    if ¬ (sr S0 508 v0) = some 3 then
    (ck ((sr S0 508 v0).getD 0 < 15) <|
    if ¬ (sr S0 508 v0) = some 8 then
    (ck ((sr S0 508 v0).getD 0 < 15) <|
    if ¬ (sr S0 508 v0) = some 10 then
    (ck ((sr S0 508 v0).getD 0 < 15) <|
    if ¬ (sr S0 508 v0) = some 11 then
    (Option.bind (f_X6_fail F S0 v0 ((1 : Int32))) fun z18 => lt z18.1 fun r20 => lt z18.2 fun S19 =>
    f_X6_parse_L111 F (fun a0 a1 a2 a3 => f_X6_parse_L11 F fu a0 a1 a2 a3) S19 v0 r20 v2)
    else
    (Option.bind (f_X6_holdStatement F S0 v0) fun z22 => lt z22.1 fun r24 => lt z22.2 fun S23 =>
    f_X6_parse_L111 F (fun a0 a1 a2 a3 => f_X6_parse_L11 F fu a0 a1 a2 a3) S23 v0 r24 v2))
    else
    (Option.bind (f_X6_groupStatement F S0 v0) fun z26 => lt z26.1 fun r28 => lt z26.2 fun S27 =>
    f_X6_parse_L111 F (fun a0 a1 a2 a3 => f_X6_parse_L11 F fu a0 a1 a2 a3) S27 v0 r28 v2))
    else
    (Option.bind (f_X6_userStatement F S0 v0) fun z30 => lt z30.1 fun r32 => lt z30.2 fun S31 =>
    f_X6_parse_L111 F (fun a0 a1 a2 a3 => f_X6_parse_L11 F fu a0 a1 a2 a3) S31 v0 r32 v2))
    else
    (Option.bind (f_X6_classStatement F S0 v0) fun z34 => lt z34.1 fun r36 => lt z34.2 fun S35 =>
    f_X6_parse_L111 F (fun a0 a1 a2 a3 => f_X6_parse_L11 F fu a0 a1 a2 a3) S35 v0 r36 v2))))
def f_X6_parse (F : Nat) (S0 : St) (p0 : Nat) : Option (Int32 × St) :=
  Option.bind (f_X6_nextToken F S0 p0) fun S74 =>
  Option.bind (f_X6_spoolStatement F S74 p0) fun z77 => lt z77.1 fun r79 => lt z77.2 fun S78 =>
  f_X6_parse_L11 F F S78 p0 r79 0
def f_X10_pastAt (F : Nat) (S0 : St) (p0 : Nat) (p1 : Int32) : Option (Option Nat × St) :=
  lt (((si S0 908 p0) + p1) - ((si S0 908 p0) + p1) / 6 * 6) fun x1 =>
  if x1 < 0 then
  (some (none, S0))
  else
  (Option.bind (sr S0 907 p0) fun j3 =>
  if (nI (ln S0 j3)) ≤ x1 then
  (some (none, S0))
  else
  (Option.bind (sr S0 907 p0) fun j5 =>
  cki x1 (ln S0 j5) <|
  os (ar S0 j5 (Int32.toNatClampNeg x1)) (
  some (none, S0)) (fun j7 =>
  some ((some j7), S0))))
def f_X10_copyRow (F : Nat) (S0 : St) (p0 : Nat) (p1 : Nat) : Option (St) :=
  ck (¬ (if (nI (ln S0 p1)) < (nI (ln S0 p0)) then (nI (ln S0 p1)) else (nI (ln S0 p0))) < 0 ∧ Int32.toNatClampNeg (if (nI (ln S0 p1)) < (nI (ln S0 p0)) then (nI (ln S0 p1)) else (nI (ln S0 p0))) ≤ ln S0 p0 ∧ Int32.toNatClampNeg (if (nI (ln S0 p1)) < (nI (ln S0 p0)) then (nI (ln S0 p1)) else (nI (ln S0 p0))) ≤ ln S0 p1) <|
  lt (sai S0 p1 (va_cpy (ai S0 p0) (ai S0 p1) 0 0 (Int32.toNatClampNeg (if (nI (ln S0 p1)) < (nI (ln S0 p0)) then (nI (ln S0 p1)) else (nI (ln S0 p0)))))) fun S2 =>
  some S2
def f_X9_copyFrom_L62 (F : Nat) (S0 : St) (v0 : Nat) (v1 : Nat) : Option (St) :=
  Option.bind (sr S0 804 v1) fun j1 =>
  Option.bind (sr S0 804 v0) fun j2 =>
  Option.bind (f_X10_copyRow F S0 j1 j2) fun S4 =>
  Option.bind (sr S4 805 v1) fun j7 =>
  Option.bind (sr S4 805 v0) fun j8 =>
  Option.bind (f_X10_copyRow F S4 j7 j8) fun S10 =>
  Option.bind (sr S10 806 v1) fun j13 =>
  Option.bind (sr S10 806 v0) fun j14 =>
  Option.bind (f_X10_copyRow F S10 j13 j14) fun S16 =>
  some S16
def f_X9_copyFrom_L26 (F : Nat) : Nat → St → Nat → Nat → Int32 → Option (St)
  | 0, _, _, _, _ => none
  | fu + 1, S0, v0, v1, v2 =>
    Option.bind (sr S0 803 v0) fun j37 =>
    if (nI (ln S0 j37)) ≤ v2 then
    (f_X9_copyFrom_L62 F S0 v0 v1)
    else
    (Option.bind (sr S0 803 v1) fun j39 =>
    if (nI (ln S0 j39)) ≤ v2 then
    (f_X9_copyFrom_L62 F S0 v0 v1)
    else
    (Option.bind (sr S0 803 v0) fun j41 =>
    Option.bind (sr S0 803 v1) fun j42 =>
    cki v2 (ln S0 j42) <|
    os (ar S0 j42 (Int32.toNatClampNeg v2)) (
    cki v2 (ln S0 j41) <|
    lt (uar S0 j41 (Int32.toNatClampNeg v2) none) fun S46 =>
    lt (v2 + 1) fun x47 =>
    (fun a0 a1 a2 a3 => f_X9_copyFrom_L26 F fu a0 a1 a2 a3) S46 v0 v1 x47) (fun j44 =>
    cki v2 (ln S0 j41) <|
    lt (uar S0 j41 (Int32.toNatClampNeg v2) (some j44)) fun S49 =>
    lt (v2 + 1) fun x50 =>
    (fun a0 a1 a2 a3 => f_X9_copyFrom_L26 F fu a0 a1 a2 a3) S49 v0 v1 x50)))
def f_X9_copyFrom (F : Nat) (S0 : St) (p0 : Nat) (p1 : Nat) : Option (St) :=
  lt (ui S0 800 p0 (si S0 800 p1)) fun S65 =>
  lt (ui S65 801 p0 (si S65 801 p1)) fun S66 =>
  lt (ui S66 802 p0 (si S66 802 p1)) fun S67 =>
  f_X9_copyFrom_L26 F F S67 p0 p1 0
def f_X2_copyFrom (F : Nat) (S0 : St) (p0 : Nat) (p1 : Nat) : Option (St) :=
  Option.bind (sr S0 200 p1) fun j1 =>
  Option.bind (sr S0 200 p0) fun j2 =>
  Option.bind (f_X10_copyRow F S0 j1 j2) fun S4 =>
  Option.bind (sr S4 201 p1) fun j7 =>
  Option.bind (sr S4 201 p0) fun j8 =>
  Option.bind (f_X10_copyRow F S4 j7 j8) fun S10 =>
  Option.bind (sr S10 202 p1) fun j13 =>
  Option.bind (sr S10 202 p0) fun j14 =>
  Option.bind (f_X10_copyRow F S10 j13 j14) fun S16 =>
  lt (ui S16 203 p0 (si S16 203 p1)) fun S19 =>
  lt (ui S19 204 p0 (si S19 204 p1)) fun S20 =>
  some S20
def f_X8_copyFrom_L89 (F : Nat) (S0 : St) (v0 : Nat) (v1 : Nat) : Option (St) :=
  Option.bind (sr S0 707 v1) fun j1 =>
  Option.bind (sr S0 707 v0) fun j2 =>
  Option.bind (f_X10_copyRow F S0 j1 j2) fun S4 =>
  Option.bind (sr S4 708 v1) fun j7 =>
  Option.bind (sr S4 708 v0) fun j8 =>
  Option.bind (f_X10_copyRow F S4 j7 j8) fun S10 =>
  Option.bind (sr S10 709 v1) fun j13 =>
  Option.bind (sr S10 709 v0) fun j14 =>
  Option.bind (f_X10_copyRow F S10 j13 j14) fun S16 =>
  Option.bind (sr S16 710 v0) fun j19 =>
  Option.bind (sr S16 710 v1) fun j20 =>
  Option.bind (f_X9_copyFrom F S16 j19 j20) fun S22 =>
  Option.bind (sr S22 711 v0) fun j25 =>
  Option.bind (sr S22 711 v1) fun j26 =>
  Option.bind (f_X2_copyFrom F S22 j25 j26) fun S28 =>
  some S28
def f_X8_copyFrom_L53 (F : Nat) : Nat → St → Nat → Nat → Int32 → Option (St)
  | 0, _, _, _, _ => none
  | fu + 1, S0, v0, v1, v2 =>
    Option.bind (sr S0 706 v0) fun j61 =>
    if (nI (ln S0 j61)) ≤ v2 then
    (f_X8_copyFrom_L89 F S0 v0 v1)
    else
    (Option.bind (sr S0 706 v1) fun j63 =>
    if (nI (ln S0 j63)) ≤ v2 then
    (f_X8_copyFrom_L89 F S0 v0 v1)
    else
    (Option.bind (sr S0 706 v0) fun j65 =>
    Option.bind (sr S0 706 v1) fun j66 =>
    cki v2 (ln S0 j66) <|
    os (ar S0 j66 (Int32.toNatClampNeg v2)) (
    cki v2 (ln S0 j65) <|
    lt (uar S0 j65 (Int32.toNatClampNeg v2) none) fun S70 =>
    lt (v2 + 1) fun x71 =>
    (fun a0 a1 a2 a3 => f_X8_copyFrom_L53 F fu a0 a1 a2 a3) S70 v0 v1 x71) (fun j68 =>
    cki v2 (ln S0 j65) <|
    lt (uar S0 j65 (Int32.toNatClampNeg v2) (some j68)) fun S73 =>
    lt (v2 + 1) fun x74 =>
    (fun a0 a1 a2 a3 => f_X8_copyFrom_L53 F fu a0 a1 a2 a3) S73 v0 v1 x74)))
def f_X8_copyFrom (F : Nat) (S0 : St) (p0 : Nat) (p1 : Nat) : Option (St) :=
  Option.bind (sr S0 700 p1) fun j89 =>
  lt (ur S0 700 p0 (some j89)) fun S90 =>
  lt (ui S90 701 p0 (si S90 701 p1)) fun S91 =>
  lt (ui S91 702 p0 (si S91 702 p1)) fun S92 =>
  lt (ui S92 703 p0 (si S92 703 p1)) fun S93 =>
  Option.bind (sr S93 704 p1) fun j94 =>
  Option.bind (sr S93 704 p0) fun j95 =>
  Option.bind (f_X10_copyRow F S93 j94 j95) fun S97 =>
  lt (ui S97 705 p0 (si S97 705 p1)) fun S100 =>
  f_X8_copyFrom_L53 F F S100 p0 p1 0
def f_X10_remember_L32 (F : Nat) (S0 : St) (v0 : Nat) : Option (St) :=
  Option.bind (f_X10_pastAt F S0 v0 (si S0 909 v0)) fun z1 => lt z1.1 fun r3 => lt z1.2 fun S2 =>
  os r3 (
  some S2) (fun j5 =>
  Option.bind (sr S2 905 v0) fun j6 =>
  Option.bind (f_X8_copyFrom F S2 j5 j6) fun S8 =>
  lt (ui S8 909 v0 ((si S8 909 v0) + 1)) fun S11 =>
  some S11)
def f_X10_remember (F : Nat) (S0 : St) (p0 : Nat) : Option (St) :=
  if (si S0 909 p0) < 6 then
  (f_X10_remember_L32 F S0 p0)
  else
  (lt (ui S0 908 p0 (((si S0 908 p0) + 1) - ((si S0 908 p0) + 1) / 6 * 6)) fun S24 =>
  lt (ui S24 909 p0 ((si S24 909 p0) - 1)) fun S25 =>
  f_X10_remember_L32 F S25 p0)
def f_X7_allHolds (F : Nat) (S0 : St) (p0 : Nat) : Option (Int32 × St) :=
  Option.bind (sr S0 611 p0) fun j1 =>
  some ((1 <<< ((si S0 401 j1) &&& 31)) - 1, S0)
def f_X9_clear (F : Nat) (S0 : St) (p0 : Nat) : Option (St) :=
  lt (ui S0 800 p0 0) fun S1 =>
  lt (ui S1 801 p0 0) fun S2 =>
  lt (ui S2 802 p0 0) fun S3 =>
  some S3
def f_X2_clear (F : Nat) (S0 : St) (p0 : Nat) : Option (St) :=
  lt (ui S0 203 p0 0) fun S1 =>
  lt (ui S1 204 p0 0) fun S2 =>
  some S2
def f_X8_startWith (F : Nat) (S0 : St) (p0 : Nat) (p1 : Nat) : Option (St) :=
  lt (ur S0 700 p0 (some p1)) fun S1 =>
  lt (ui S1 701 p0 0) fun S2 =>
  lt (ui S2 702 p0 0) fun S3 =>
  Option.bind (f_X7_allHolds F S3 p1) fun z4 => lt z4.1 fun r6 => lt z4.2 fun S5 =>
  lt (ui S5 703 p0 r6) fun S8 =>
  Option.bind (sr S8 608 p1) fun j9 =>
  Option.bind (sr S8 704 p0) fun j10 =>
  Option.bind (f_X10_copyRow F S8 j9 j10) fun S12 =>
  lt (ui S12 705 p0 0) fun S15 =>
  Option.bind (sr S15 710 p0) fun j16 =>
  Option.bind (f_X9_clear F S15 j16) fun S18 =>
  Option.bind (sr S18 711 p0) fun j21 =>
  Option.bind (f_X2_clear F S18 j21) fun S23 =>
  some S23
def f_X10_load (F : Nat) (S0 : St) (n : Nat) (p0 : Nat) : Option (Int32 × St × Nat) :=
  lt (nob S0 n) fun S4 => lt (n + 1) fun n5 =>
  Option.bind (sr S4 900 p0) fun j7 =>
  Option.bind (f_X6_init F S4 n5 n j7) fun z8 => lt z8.1 fun S9 => lt z8.2 fun n11 =>
  Option.bind (f_X6_parse F S9 n) fun z15 => lt z15.1 fun r17 => lt z15.2 fun S16 =>
  Option.bind (sr S16 900 p0) fun j19 =>
  Option.bind (f_X0_cutTo F S16 j19 ((0 : Int32))) fun S21 =>
  lt (ui S21 903 p0 (si S21 502 n)) fun S24 =>
  lt (ui S24 904 p0 (si S24 503 n)) fun S25 =>
  if ¬ r17 = 0 then
  (Option.bind (f_X10_remember F S25 p0) fun S28 =>
  Option.bind (sr S28 905 p0) fun j31 =>
  Option.bind (sr S28 501 n) fun j32 =>
  Option.bind (f_X8_startWith F S28 j31 j32) fun S34 =>
  Option.bind (sr S34 905 p0) fun j37 =>
  Option.bind (sr S34 700 j37) fun j38 =>
  Option.bind (sr S34 606 j38) fun j39 =>
  some (si S34 401 j39, S34, n11))
  else
  (some ((-4), S25, n11))
def f_X10_errorCode (F : Nat) (S0 : St) (p0 : Nat) : Option (Int32 × St) :=
  some (si S0 903 p0, S0)
def f_X10_errorPosition (F : Nat) (S0 : St) (p0 : Nat) : Option (Int32 × St) :=
  some (si S0 904 p0, S0)
def f_X10_needKind_L9 (F : Nat) (S0 : St) : Option ((Nat ⊕ Unit) × St) :=
  some (.inl 2, S0)
def f_X10_needKind (F : Nat) (S0 : St) (p0 : Int32) : Option ((Nat ⊕ Unit) × St) :=
  if p0 < 0 then
  (f_X10_needKind_L9 F S0)
  else
  (if p0 ≤ 3 then
  (some (.inr (), S0))
  else
  (f_X10_needKind_L9 F S0))
def f_X7_namesOf (F : Nat) (S0 : St) (p0 : Nat) (p1 : Int32) : Option (Option Nat × St) :=
  if p1 = 0 then
  (Option.bind (sr S0 602 p0) fun j2 =>
  some ((some j2), S0))
  else
  (if p1 = 1 then
  (Option.bind (sr S0 606 p0) fun j4 =>
  some ((some j4), S0))
  else
  (if p1 = 2 then
  (Option.bind (sr S0 609 p0) fun j6 =>
  some ((some j6), S0))
  else
  (Option.bind (sr S0 611 p0) fun j7 =>
  some ((some j7), S0))))
def f_X0_wholeWord_L4 (F : Nat) : Nat → St → Nat → Int64 → Int32 → Option (Int64 × St)
  | 0, _, _, _, _ => none
  | fu + 1, S0, v0, v1, v3 =>
    if (si S0 1 v0) ≤ v3 then
    (if ¬ (lg_cmp v1 ((-1))) = 0 then
    (some (v1, S0))
    else
    (some (0, S0)))
    else
    (Option.bind (f_X0_byteAt F S0 v0 v3) fun z3 => lt z3.1 fun r5 => lt z3.2 fun S4 =>
    Option.bind (f_X10_isLetter F S4 r5) fun z7 => lt z7.1 fun r9 => lt z7.2 fun S8 =>
    if ¬ r9 = 0 then
    (Option.bind (f_X10_withLetter F S8 v1 r5) fun z12 => lt z12.1 fun r14 => lt z12.2 fun S13 =>
    lt (v3 + 1) fun x16 =>
    (fun a0 a1 a2 a3 => f_X0_wholeWord_L4 F fu a0 a1 a2 a3) S13 v0 r14 x16)
    else
    (some (0, S8)))
def f_X0_wholeWord (F : Nat) (S0 : St) (p0 : Nat) : Option (Int64 × St) :=
  f_X0_wholeWord_L4 F F S0 p0 0 0
def f_X10_find (F : Nat) (S0 : St) (p0 : Nat) (p1 : Int32) : Option ((Nat ⊕ Int32) × St) :=
  Option.bind (f_X10_needKind F S0 p1) fun z1 => lt z1.2 fun S2 =>
  sm z1.1 (fun x => some (.inl x, S2)) (fun r3 =>
  Option.bind (sr S2 905 p0) fun j9 =>
  Option.bind (sr S2 700 j9) fun j10 =>
  Option.bind (f_X7_namesOf F S2 j10 p1) fun z11 => lt z11.1 fun r13 => lt z11.2 fun S12 =>
  Option.bind r13 fun j15 =>
  Option.bind (sr S12 900 p0) fun j16 =>
  Option.bind (f_X0_wholeWord F S12 j16) fun z17 => lt z17.1 fun r19 => lt z17.2 fun S18 =>
  Option.bind (f_X5_numberOf F S18 j15 r19) fun z21 => lt z21.1 fun r23 => lt z21.2 fun S22 =>
  Option.bind (sr S22 900 p0) fun j25 =>
  Option.bind (f_X0_cutTo F S22 j25 ((0 : Int32))) fun S27 =>
  some (.inr r23, S27))
def f_X10_count (F : Nat) (S0 : St) (p0 : Nat) (p1 : Int32) : Option ((Nat ⊕ Int32) × St) :=
  Option.bind (f_X10_needKind F S0 p1) fun z1 => lt z1.2 fun S2 =>
  sm z1.1 (fun x => some (.inl x, S2)) (fun r3 =>
  Option.bind (sr S2 905 p0) fun j9 =>
  Option.bind (sr S2 700 j9) fun j10 =>
  Option.bind (f_X7_namesOf F S2 j10 p1) fun z11 => lt z11.1 fun r13 => lt z11.2 fun S12 =>
  Option.bind r13 fun j15 =>
  some (.inr (si S12 401 j15), S12))
def f_X5_has (F : Nat) (S0 : St) (p0 : Nat) (p1 : Int32) : Option (Int32 × St) :=
  if p1 < 0 then
  (some (0, S0))
  else
  (if (si S0 401 p0) ≤ p1 then
  (some (0, S0))
  else
  (some (1, S0)))
def f_X10_members (F : Nat) (S0 : St) (p0 : Nat) (p1 : Int32) : Option ((Nat ⊕ Int32) × St) :=
  Option.bind (sr S0 905 p0) fun j1 =>
  Option.bind (sr S0 700 j1) fun j2 =>
  Option.bind (sr S0 609 j2) fun j3 =>
  Option.bind (f_X5_has F S0 j3 p1) fun z4 => lt z4.1 fun r6 => lt z4.2 fun S5 =>
  if ¬ r6 = 0 then
  (Option.bind (sr S5 905 p0) fun j9 =>
  Option.bind (sr S5 700 j9) fun j10 =>
  Option.bind (sr S5 610 j10) fun j11 =>
  Option.bind (f_X10_at F S5 j11 p1) fun z12 => lt z12.1 fun r14 => lt z12.2 fun S13 =>
  some (.inr r14, S13))
  else
  (some (.inl 4, S5))
def f_X10_needClass (F : Nat) (S0 : St) (p0 : Nat) (p1 : Int32) : Option ((Nat ⊕ Unit) × St) :=
  Option.bind (sr S0 905 p0) fun j1 =>
  Option.bind (sr S0 700 j1) fun j2 =>
  Option.bind (sr S0 602 j2) fun j3 =>
  Option.bind (f_X5_has F S0 j3 p1) fun z4 => lt z4.1 fun r6 => lt z4.2 fun S5 =>
  if ¬ r6 = 0 then
  (some (.inr (), S5))
  else
  (some (.inl 4, S5))
def f_X10_needWhat_L9 (F : Nat) (S0 : St) : Option ((Nat ⊕ Unit) × St) :=
  some (.inl 2, S0)
def f_X10_needWhat (F : Nat) (S0 : St) (p0 : Int32) (p1 : Int32) : Option ((Nat ⊕ Unit) × St) :=
  if p0 < 0 then
  (f_X10_needWhat_L9 F S0)
  else
  (if p0 ≤ p1 then
  (some (.inr (), S0))
  else
  (f_X10_needWhat_L9 F S0))
def f_X10_retention (F : Nat) (S0 : St) (p0 : Nat) (p1 : Int32) (p2 : Int32) : Option ((Nat ⊕ Int32) × St) :=
  Option.bind (f_X10_needClass F S0 p0 p1) fun z1 => lt z1.2 fun S2 =>
  sm z1.1 (fun x => some (.inl x, S2)) (fun r3 =>
  Option.bind (f_X10_needWhat F S2 p2 ((2 : Int32))) fun z9 => lt z9.2 fun S10 =>
  sm z9.1 (fun x => some (.inl x, S10)) (fun r11 =>
  if ¬ p2 = 0 then
  (if ¬ p2 = 1 then
  (Option.bind (sr S10 905 p0) fun j19 =>
  Option.bind (sr S10 700 j19) fun j20 =>
  Option.bind (sr S10 605 j20) fun j21 =>
  Option.bind (f_X10_at F S10 j21 p1) fun z22 => lt z22.1 fun r24 => lt z22.2 fun S23 =>
  some (.inr r24, S23))
  else
  (Option.bind (sr S10 905 p0) fun j26 =>
  Option.bind (sr S10 700 j26) fun j27 =>
  Option.bind (sr S10 604 j27) fun j28 =>
  Option.bind (f_X10_at F S10 j28 p1) fun z29 => lt z29.1 fun r31 => lt z29.2 fun S30 =>
  some (.inr r31, S30)))
  else
  (Option.bind (sr S10 905 p0) fun j33 =>
  Option.bind (sr S10 700 j33) fun j34 =>
  Option.bind (sr S10 603 j34) fun j35 =>
  Option.bind (f_X10_at F S10 j35 p1) fun z36 => lt z36.1 fun r38 => lt z36.2 fun S37 =>
  some (.inr r38, S37))))
def f_X7_ladderFrom_L7 (F : Nat) : Nat → St → Nat → Int32 → Int32 → Int32 → Option (Int32 × St)
  | 0, _, _, _, _, _ => none
  | fu + 1, S0, v0, v2, v3, v4 =>
    if 8 ≤ v4 then
    (some (v2, S0))
    else
    (if v3 = ((-1)) then
    (some (v2, S0))
    else
    (Option.bind (sr S0 603 v0) fun j3 =>
    Option.bind (f_X10_at F S0 j3 v3) fun z4 => lt z4.1 fun r6 => lt z4.2 fun S5 =>
    if ¬ r6 = ((-1)) then
    (lt (v2 + r6) fun x9 =>
    Option.bind (sr S5 605 v0) fun j10 =>
    Option.bind (f_X10_at F S5 j10 v3) fun z11 => lt z11.1 fun r13 => lt z11.2 fun S12 =>
    lt (v4 + 1) fun x15 =>
    (fun a0 a1 a2 a3 a4 => f_X7_ladderFrom_L7 F fu a0 a1 a2 a3 a4) S12 v0 x9 r13 x15)
    else
    (some ((-1), S5))))
def f_X7_ladderFrom (F : Nat) (S0 : St) (p0 : Nat) (p1 : Int32) : Option (Int32 × St) :=
  f_X7_ladderFrom_L7 F F S0 p0 0 p1 0
def f_X10_ladderDays (F : Nat) (S0 : St) (p0 : Nat) (p1 : Int32) : Option ((Nat ⊕ Int32) × St) :=
  Option.bind (f_X10_needClass F S0 p0 p1) fun z1 => lt z1.2 fun S2 =>
  sm z1.1 (fun x => some (.inl x, S2)) (fun r3 =>
  Option.bind (sr S2 905 p0) fun j9 =>
  Option.bind (sr S2 700 j9) fun j10 =>
  Option.bind (f_X7_ladderFrom F S2 j10 p1) fun z11 => lt z11.1 fun r13 => lt z11.2 fun S12 =>
  some (.inr r13, S12))
def f_X10_day (F : Nat) (S0 : St) (p0 : Nat) : Option (Int32 × St) :=
  Option.bind (sr S0 905 p0) fun j1 =>
  some (si S0 701 j1, S0)
def f_X10_needUser (F : Nat) (S0 : St) (p0 : Nat) (p1 : Int32) : Option ((Nat ⊕ Unit) × St) :=
  Option.bind (sr S0 905 p0) fun j1 =>
  Option.bind (sr S0 700 j1) fun j2 =>
  Option.bind (sr S0 606 j2) fun j3 =>
  Option.bind (f_X5_has F S0 j3 p1) fun z4 => lt z4.1 fun r6 => lt z4.2 fun S5 =>
  if ¬ r6 = 0 then
  (some (.inr (), S5))
  else
  (some (.inl 4, S5))
def f_X7_allUsers (F : Nat) (S0 : St) (p0 : Nat) : Option (Int32 × St) :=
  Option.bind (sr S0 606 p0) fun j1 =>
  some ((1 <<< ((si S0 401 j1) &&& 31)) - 1, S0)
def f_X1_cut_L108 (F : Nat) (k9 : St → Nat → Int32 → Int32 → Option (Int32 × St)) (S0 : St) (v0 : Nat) (v1 : Int32) (v2 : Int32) : Option (Int32 × St) :=
  lt (v2 + 1) fun x1 =>
  k9 S0 v0 v1 x1
def f_X1_cut_L44 (F : Nat) (k9 : St → Nat → Int32 → Int32 → Option (Int32 × St)) (S0 : St) (v0 : Nat) (v1 : Int32) (v2 : Int32) : Option (Int32 × St) :=
  if 4 ≤ (si S0 103 v0) then
  (some (0, S0))
  else
  (if (v2 - v1) < 1 then
  (some (0, S0))
  else
  (if (v2 - v1) ≤ 200 then
  (Option.bind (sr S0 101 v0) fun j6 =>
  Option.bind (f_X10_put F S0 j6 (si S0 103 v0) v1) fun S8 =>
  Option.bind (sr S8 102 v0) fun j11 =>
  Option.bind (f_X10_put F S8 j11 (si S8 103 v0) v2) fun S13 =>
  lt (ui S13 103 v0 ((si S13 103 v0) + 1)) fun S16 =>
  lt (v2 + 1) fun x17 =>
  f_X1_cut_L108 F k9 S16 v0 x17 v2)
  else
  (some (0, S0))))
def f_X1_cut_L9 (F : Nat) : Nat → St → Nat → Int32 → Int32 → Option (Int32 × St)
  | 0, _, _, _, _ => none
  | fu + 1, S0, v0, v1, v2 =>
    Option.bind (sr S0 100 v0) fun j33 =>
    if (si S0 1 j33) < v2 then
    (some (1, S0))
    else
    (Option.bind (sr S0 100 v0) fun j35 =>
    if v2 = (si S0 1 j35) then
    (f_X1_cut_L44 F (fun a0 a1 a2 a3 => f_X1_cut_L9 F fu a0 a1 a2 a3) S0 v0 v1 v2)
    else
    (Option.bind (sr S0 100 v0) fun j37 =>
    Option.bind (f_X0_byteAt F S0 j37 v2) fun z38 => lt z38.1 fun r40 => lt z38.2 fun S39 =>
    if ¬ r40 = 124 then
    (f_X1_cut_L108 F (fun a0 a1 a2 a3 => f_X1_cut_L9 F fu a0 a1 a2 a3) S39 v0 v1 v2)
    else
    (f_X1_cut_L44 F (fun a0 a1 a2 a3 => f_X1_cut_L9 F fu a0 a1 a2 a3) S39 v0 v1 v2)))
def f_X1_cut (F : Nat) (S0 : St) (p0 : Nat) : Option (Int32 × St) :=
  lt (ui S0 103 p0 0) fun S53 =>
  f_X1_cut_L9 F F S53 p0 0 0
def f_X9_isStored (F : Nat) (S0 : St) (p0 : Nat) (p1 : Int32) : Option (Int32 × St) :=
  if p1 < 0 then
  (some (0, S0))
  else
  (if (si S0 800 p0) ≤ p1 then
  (some (0, S0))
  else
  (Option.bind (sr S0 806 p0) fun j3 =>
  Option.bind (f_X10_at F S0 j3 p1) fun z4 => lt z4.1 fun r6 => lt z4.2 fun S5 =>
  if r6 = ((-2)) then
  (some (0, S5))
  else
  (some (1, S5))))
def f_X9_isDead (F : Nat) (S0 : St) (p0 : Nat) (p1 : Int32) : Option (Int32 × St) :=
  Option.bind (f_X9_isStored F S0 p0 p1) fun z1 => lt z1.1 fun r3 => lt z1.2 fun S2 =>
  if r3 = 0 then
  (some (0, S2))
  else
  (Option.bind (sr S2 806 p0) fun j6 =>
  Option.bind (f_X10_at F S2 j6 p1) fun z7 => lt z7.1 fun r9 => lt z7.2 fun S8 =>
  if r9 = ((-1)) then
  (some (0, S8))
  else
  (some (1, S8)))
def f_X9_bytesOf_L31 (F : Nat) (S0 : St) (v0 : Nat) (s0 : Option Nat) : Option (Option Nat × St) :=
  os s0 (
  Option.bind (sr S0 807 v0) fun j1 =>
  some ((some j1), S0)) (fun js0 =>
  some ((some js0), S0))
def f_X9_bytesOf_L30 (F : Nat) (S0 : St) (v0 : Nat) : Option (Option Nat × St) :=
  f_X9_bytesOf_L31 F S0 v0 none
def f_X9_bytesOf (F : Nat) (S0 : St) (p0 : Nat) (p1 : Int32) : Option (Option Nat × St) :=
  if p1 < 0 then
  (f_X9_bytesOf_L30 F S0 p0)
  else
  (if (si S0 800 p0) ≤ p1 then
  (f_X9_bytesOf_L30 F S0 p0)
  else
  (Option.bind (sr S0 803 p0) fun j5 =>
  if (nI (ln S0 j5)) ≤ p1 then
  (f_X9_bytesOf_L30 F S0 p0)
  else
  (Option.bind (sr S0 803 p0) fun j7 =>
  cki p1 (ln S0 j7) <|
  os (ar S0 j7 (Int32.toNatClampNeg p1)) (
  f_X9_bytesOf_L31 F S0 p0 none) (fun j9 =>
  f_X9_bytesOf_L31 F S0 p0 (some j9)))))
def f_X9_byteSum_L46 (F : Nat) (k4 : St → Nat → Int32 → Int32 → Int32 → Option (Int32 × St)) (S0 : St) (v0 : Nat) (v1 : Int32) (v2 : Int32) (v3 : Int32) : Option (Int32 × St) :=
  lt (v3 + 1) fun x1 =>
  k4 S0 v0 v1 v2 x1
def f_X9_byteSum_L35 (F : Nat) (k4 : St → Nat → Int32 → Int32 → Int32 → Option (Int32 × St)) (S0 : St) (v0 : Nat) (v1 : Int32) (v2 : Int32) (v3 : Int32) : Option (Int32 × St) :=
  Option.bind (f_X9_bytesOf F S0 v0 v3) fun z3 => lt z3.1 fun r5 => lt z3.2 fun S4 =>
  Option.bind r5 fun j7 =>
  lt (v2 + (si S4 1 j7)) fun x8 =>
  f_X9_byteSum_L46 F k4 S4 v0 v1 x8 v3
def f_X9_byteSum_L4 (F : Nat) : Nat → St → Nat → Int32 → Int32 → Int32 → Option (Int32 × St)
  | 0, _, _, _, _, _ => none
  | fu + 1, S0, v0, v1, v2, v3 =>
    if (si S0 800 v0) ≤ v3 then
    (some (v2, S0))
    else
    (if v1 = 0 then
    (Option.bind (f_X9_isStored F S0 v0 v3) fun z17 => lt z17.1 fun r19 => lt z17.2 fun S18 =>
    if r19 = 0 then
    (f_X9_byteSum_L46 F (fun a0 a1 a2 a3 a4 => f_X9_byteSum_L4 F fu a0 a1 a2 a3 a4) S18 v0 v1 v2 v3)
    else
    (f_X9_byteSum_L35 F (fun a0 a1 a2 a3 a4 => f_X9_byteSum_L4 F fu a0 a1 a2 a3 a4) S18 v0 v1 v2 v3))
    else
    (Option.bind (f_X9_isDead F S0 v0 v3) fun z22 => lt z22.1 fun r24 => lt z22.2 fun S23 =>
    if r24 = 0 then
    (f_X9_byteSum_L46 F (fun a0 a1 a2 a3 a4 => f_X9_byteSum_L4 F fu a0 a1 a2 a3 a4) S23 v0 v1 v2 v3)
    else
    (f_X9_byteSum_L35 F (fun a0 a1 a2 a3 a4 => f_X9_byteSum_L4 F fu a0 a1 a2 a3 a4) S23 v0 v1 v2 v3)))
def f_X9_byteSum (F : Nat) (S0 : St) (p0 : Nat) (p1 : Int32) : Option (Int32 × St) :=
  f_X9_byteSum_L4 F F S0 p0 p1 0 0
def f_X1_sizeAt (F : Nat) (S0 : St) (p0 : Nat) (p1 : Int32) : Option (Int32 × St) :=
  Option.bind (sr S0 102 p0) fun j1 =>
  Option.bind (f_X10_at F S0 j1 p1) fun z2 => lt z2.1 fun r4 => lt z2.2 fun S3 =>
  Option.bind (sr S3 101 p0) fun j6 =>
  Option.bind (f_X10_at F S3 j6 p1) fun z7 => lt z7.1 fun r9 => lt z7.2 fun S8 =>
  some (r4 - r9, S8)
def f_X1_areEqual_L17 (F : Nat) : Nat → St → Nat → Int32 → Int32 → Int32 → Option (Int32 × St)
  | 0, _, _, _, _, _ => none
  | fu + 1, S0, v0, v1, v2, v3 =>
    Option.bind (f_X1_sizeAt F S0 v0 v1) fun z1 => lt z1.1 fun r3 => lt z1.2 fun S2 =>
    if r3 ≤ v3 then
    (some (1, S2))
    else
    (Option.bind (sr S2 100 v0) fun j6 =>
    Option.bind (sr S2 101 v0) fun j7 =>
    Option.bind (f_X10_at F S2 j7 v1) fun z8 => lt z8.1 fun r10 => lt z8.2 fun S9 =>
    Option.bind (f_X0_byteAt F S9 j6 (r10 + v3)) fun z12 => lt z12.1 fun r14 => lt z12.2 fun S13 =>
    Option.bind (sr S13 100 v0) fun j16 =>
    Option.bind (sr S13 101 v0) fun j17 =>
    Option.bind (f_X10_at F S13 j17 v2) fun z18 => lt z18.1 fun r20 => lt z18.2 fun S19 =>
    Option.bind (f_X0_byteAt F S19 j16 (r20 + v3)) fun z22 => lt z22.1 fun r24 => lt z22.2 fun S23 =>
    if r14 = r24 then
    (lt (v3 + 1) fun x27 =>
    (fun a0 a1 a2 a3 a4 => f_X1_areEqual_L17 F fu a0 a1 a2 a3 a4) S23 v0 v1 v2 x27)
    else
    (some (0, S23)))
def f_X1_areEqual (F : Nat) (S0 : St) (p0 : Nat) (p1 : Int32) (p2 : Int32) : Option (Int32 × St) :=
  Option.bind (f_X1_sizeAt F S0 p0 p1) fun z55 => lt z55.1 fun r57 => lt z55.2 fun S56 =>
  Option.bind (f_X1_sizeAt F S56 p0 p2) fun z59 => lt z59.1 fun r61 => lt z59.2 fun S60 =>
  if r57 = r61 then
  (f_X1_areEqual_L17 F F S60 p0 p1 p2 0)
  else
  (some (0, S60))
def f_X1_isFirstOfItsKind_L2 (F : Nat) : Nat → St → Nat → Int32 → Int32 → Option (Int32 × St)
  | 0, _, _, _, _ => none
  | fu + 1, S0, v0, v1, v2 =>
    if v1 ≤ v2 then
    (some (1, S0))
    else
    (Option.bind (f_X1_areEqual F S0 v0 v2 v1) fun z2 => lt z2.1 fun r4 => lt z2.2 fun S3 =>
    if r4 = 0 then
    (lt (v2 + 1) fun x7 =>
    (fun a0 a1 a2 a3 => f_X1_isFirstOfItsKind_L2 F fu a0 a1 a2 a3) S3 v0 v1 x7)
    else
    (some (0, S3)))
def f_X1_isFirstOfItsKind (F : Nat) (S0 : St) (p0 : Nat) (p1 : Int32) : Option (Int32 × St) :=
  f_X1_isFirstOfItsKind_L2 F F S0 p0 p1 0
def f_X0_isRange_L15 (F : Nat) : Nat → St → Nat → Nat → Int32 → Int32 → Option (Int32 × St)
  | 0, _, _, _, _, _ => none
  | fu + 1, S0, v0, v1, v2, v4 =>
    if (si S0 1 v0) ≤ v4 then
    (some (1, S0))
    else
    (Option.bind (f_X0_byteAt F S0 v0 v4) fun z2 => lt z2.1 fun r4 => lt z2.2 fun S3 =>
    Option.bind (f_X0_byteAt F S3 v1 (v2 + v4)) fun z6 => lt z6.1 fun r8 => lt z6.2 fun S7 =>
    if r4 = r8 then
    (lt (v4 + 1) fun x11 =>
    (fun a0 a1 a2 a3 a4 => f_X0_isRange_L15 F fu a0 a1 a2 a3 a4) S7 v0 v1 v2 x11)
    else
    (some (0, S7)))
def f_X0_isRange (F : Nat) (S0 : St) (p0 : Nat) (p1 : Nat) (p2 : Int32) (p3 : Int32) : Option (Int32 × St) :=
  if (p3 - p2) = (si S0 1 p0) then
  (f_X0_isRange_L15 F F S0 p0 p1 p2 0)
  else
  (some (0, S0))
def f_X1_isEqualTo (F : Nat) (S0 : St) (p0 : Nat) (p1 : Nat) (p2 : Int32) : Option (Int32 × St) :=
  Option.bind (sr S0 100 p0) fun j1 =>
  Option.bind (sr S0 101 p0) fun j2 =>
  Option.bind (f_X10_at F S0 j2 p2) fun z3 => lt z3.1 fun r5 => lt z3.2 fun S4 =>
  Option.bind (sr S4 102 p0) fun j7 =>
  Option.bind (f_X10_at F S4 j7 p2) fun z8 => lt z8.1 fun r10 => lt z8.2 fun S9 =>
  Option.bind (f_X0_isRange F S9 p1 j1 r5 r10) fun z12 => lt z12.1 fun r14 => lt z12.2 fun S13 =>
  ck (r14 = 0 ∨ r14 = 1) <| some (r14, S13)
def f_X9_numberOf_L33 (F : Nat) (k2 : St → Nat → Nat → Int32 → Int32 → Option (Int32 × St)) (S0 : St) (v0 : Nat) (v1 : Nat) (v2 : Int32) (v3 : Int32) : Option (Int32 × St) :=
  lt (v3 + 1) fun x1 =>
  k2 S0 v0 v1 v2 x1
def f_X9_numberOf_L2 (F : Nat) : Nat → St → Nat → Nat → Int32 → Int32 → Option (Int32 × St)
  | 0, _, _, _, _, _ => none
  | fu + 1, S0, v0, v1, v2, v3 =>
    if (si S0 800 v0) ≤ v3 then
    (some ((-1), S0))
    else
    (Option.bind (f_X9_isStored F S0 v0 v3) fun z4 => lt z4.1 fun r6 => lt z4.2 fun S5 =>
    if r6 = 0 then
    (f_X9_numberOf_L33 F (fun a0 a1 a2 a3 a4 => f_X9_numberOf_L2 F fu a0 a1 a2 a3 a4) S5 v0 v1 v2 v3)
    else
    (Option.bind (f_X9_bytesOf F S5 v0 v3) fun z9 => lt z9.1 fun r11 => lt z9.2 fun S10 =>
    Option.bind r11 fun j13 =>
    Option.bind (f_X1_isEqualTo F S10 v1 j13 v2) fun z14 => lt z14.1 fun r16 => lt z14.2 fun S15 =>
    if r16 = 0 then
    (f_X9_numberOf_L33 F (fun a0 a1 a2 a3 a4 => f_X9_numberOf_L2 F fu a0 a1 a2 a3 a4) S15 v0 v1 v2 v3)
    else
    (some (v3, S15))))
def f_X9_numberOf (F : Nat) (S0 : St) (p0 : Nat) (p1 : Nat) (p2 : Int32) : Option (Int32 × St) :=
  f_X9_numberOf_L2 F F S0 p0 p1 p2 0
def f_X9_bytesWith_L42 (F : Nat) (k8 : St → Nat → Nat → Int32 → Int32 → Option (Int32 × St)) (S0 : St) (v0 : Nat) (v1 : Nat) (v2 : Int32) (v3 : Int32) : Option (Int32 × St) :=
  lt (v3 + 1) fun x1 =>
  k8 S0 v0 v1 v2 x1
def f_X9_bytesWith_L8 (F : Nat) : Nat → St → Nat → Nat → Int32 → Int32 → Option (Int32 × St)
  | 0, _, _, _, _, _ => none
  | fu + 1, S0, v0, v1, v2, v3 =>
    if (si S0 103 v1) ≤ v3 then
    (some (v2, S0))
    else
    (Option.bind (f_X1_isFirstOfItsKind F S0 v1 v3) fun z4 => lt z4.1 fun r6 => lt z4.2 fun S5 =>
    if r6 = 0 then
    (f_X9_bytesWith_L42 F (fun a0 a1 a2 a3 a4 => f_X9_bytesWith_L8 F fu a0 a1 a2 a3 a4) S5 v0 v1 v2 v3)
    else
    (Option.bind (f_X9_numberOf F S5 v0 v1 v3) fun z9 => lt z9.1 fun r11 => lt z9.2 fun S10 =>
    if ¬ r11 = ((-1)) then
    (f_X9_bytesWith_L42 F (fun a0 a1 a2 a3 a4 => f_X9_bytesWith_L8 F fu a0 a1 a2 a3 a4) S10 v0 v1 v2 v3)
    else
    (Option.bind (f_X1_sizeAt F S10 v1 v3) fun z14 => lt z14.1 fun r16 => lt z14.2 fun S15 =>
    lt (v2 + r16) fun x18 =>
    f_X9_bytesWith_L42 F (fun a0 a1 a2 a3 a4 => f_X9_bytesWith_L8 F fu a0 a1 a2 a3 a4) S15 v0 v1 x18 v3)))
def f_X9_bytesWith (F : Nat) (S0 : St) (p0 : Nat) (p1 : Nat) : Option (Int32 × St) :=
  Option.bind (f_X9_byteSum F S0 p0 ((0 : Int32))) fun z35 => lt z35.1 fun r37 => lt z35.2 fun S36 =>
  f_X9_bytesWith_L8 F F S36 p0 p1 r37 0
def f_X1_sizeOfAll_L4 (F : Nat) : Nat → St → Nat → Int32 → Int32 → Option (Int32 × St)
  | 0, _, _, _, _ => none
  | fu + 1, S0, v0, v1, v2 =>
    if (si S0 103 v0) ≤ v2 then
    (some (v1, S0))
    else
    (Option.bind (f_X1_sizeAt F S0 v0 v2) fun z2 => lt z2.1 fun r4 => lt z2.2 fun S3 =>
    lt (v1 + r4) fun x6 =>
    lt (v2 + 1) fun x7 =>
    (fun a0 a1 a2 a3 => f_X1_sizeOfAll_L4 F fu a0 a1 a2 a3) S3 v0 x6 x7)
def f_X1_sizeOfAll (F : Nat) (S0 : St) (p0 : Nat) : Option (Int32 × St) :=
  f_X1_sizeOfAll_L4 F F S0 p0 0 0
def f_X10_hasBit (F : Nat) (S0 : St) (p0 : Int32) (p1 : Int32) : Option (Int32 × St) :=
  if ((p0 >>> (p1 &&& 31)) &&& 1) = 0 then
  (some (0, S0))
  else
  (some (1, S0))
def f_X8_stateOf (F : Nat) (S0 : St) (p0 : Nat) (p1 : Int32) (p2 : Int32) : Option (Int32 × St) :=
  if p1 < 0 then
  (some ((-1), S0))
  else
  (if (si S0 705 p0) ≤ p1 then
  (some ((-1), S0))
  else
  (Option.bind (sr S0 700 p0) fun j3 =>
  Option.bind (sr S0 606 j3) fun j4 =>
  Option.bind (f_X5_has F S0 j4 p2) fun z5 => lt z5.1 fun r7 => lt z5.2 fun S6 =>
  if ¬ r7 = 0 then
  (Option.bind (sr S6 707 p0) fun j10 =>
  Option.bind (f_X10_at F S6 j10 ((p1 * 10) + p2)) fun z11 => lt z11.1 fun r13 => lt z11.2 fun S12 =>
  some (r13, S12))
  else
  (some ((-1), S6))))
def f_X8_messageAt_L41 (F : Nat) (S0 : St) (v0 : Nat) (s0 : Option Nat) : Option (Option Nat × St) :=
  os s0 (
  Option.bind (sr S0 715 v0) fun j1 =>
  some ((some j1), S0)) (fun js0 =>
  some ((some js0), S0))
def f_X8_messageAt_L26 (F : Nat) (S0 : St) (v0 : Nat) (v1 : Int32) (s0 : Int32) : Option (Option Nat × St) :=
  if s0 = 0 then
  (f_X8_messageAt_L41 F S0 v0 none)
  else
  (Option.bind (sr S0 706 v0) fun j4 =>
  cki v1 (ln S0 j4) <|
  os (ar S0 j4 (Int32.toNatClampNeg v1)) (
  f_X8_messageAt_L41 F S0 v0 none) (fun j6 =>
  f_X8_messageAt_L41 F S0 v0 (some j6)))
def f_X8_messageAt_L25 (F : Nat) (S0 : St) (v0 : Nat) (v1 : Int32) : Option (Option Nat × St) :=
  f_X8_messageAt_L26 F S0 v0 v1 0
def f_X8_messageAt (F : Nat) (S0 : St) (p0 : Nat) (p1 : Int32) : Option (Option Nat × St) :=
  if p1 < 0 then
  (f_X8_messageAt_L25 F S0 p0 p1)
  else
  (if (si S0 705 p0) ≤ p1 then
  (f_X8_messageAt_L25 F S0 p0 p1)
  else
  (Option.bind (sr S0 706 p0) fun j13 =>
  if (nI (ln S0 j13)) ≤ p1 then
  (f_X8_messageAt_L25 F S0 p0 p1)
  else
  (f_X8_messageAt_L26 F S0 p0 p1 1)))
def f_X8_usageOf_L32 (F : Nat) (k4 : St → Nat → Int32 → Int32 → Int32 → Option (Int32 × St)) (S0 : St) (v0 : Nat) (v1 : Int32) (v2 : Int32) (v3 : Int32) : Option (Int32 × St) :=
  lt (v3 + 1) fun x1 =>
  k4 S0 v0 v1 v2 x1
def f_X8_usageOf_L4 (F : Nat) : Nat → St → Nat → Int32 → Int32 → Int32 → Option (Int32 × St)
  | 0, _, _, _, _, _ => none
  | fu + 1, S0, v0, v1, v2, v3 =>
    if (si S0 705 v0) ≤ v3 then
    (some (v2, S0))
    else
    (Option.bind (f_X8_stateOf F S0 v0 v3 v1) fun z4 => lt z4.1 fun r6 => lt z4.2 fun S5 =>
    if ¬ r6 = 0 then
    (f_X8_usageOf_L32 F (fun a0 a1 a2 a3 a4 => f_X8_usageOf_L4 F fu a0 a1 a2 a3 a4) S5 v0 v1 v2 v3)
    else
    (Option.bind (f_X8_messageAt F S5 v0 v3) fun z9 => lt z9.1 fun r11 => lt z9.2 fun S10 =>
    Option.bind r11 fun j13 =>
    lt (v2 + (si S10 302 j13)) fun x14 =>
    f_X8_usageOf_L32 F (fun a0 a1 a2 a3 a4 => f_X8_usageOf_L4 F fu a0 a1 a2 a3 a4) S10 v0 v1 x14 v3))
def f_X8_usageOf (F : Nat) (S0 : St) (p0 : Nat) (p1 : Int32) : Option (Int32 × St) :=
  f_X8_usageOf_L4 F F S0 p0 p1 0 0
def f_X2_note (F : Nat) (S0 : St) (p0 : Nat) (p1 : Int32) (p2 : Int32) (p3 : Int32) : Option (St) :=
  lt (((si S0 203 p0) + (si S0 204 p0)) - ((si S0 203 p0) + (si S0 204 p0)) / 60 * 60) fun x1 =>
  Option.bind (sr S0 200 p0) fun j2 =>
  Option.bind (f_X10_put F S0 j2 x1 p1) fun S4 =>
  Option.bind (sr S4 201 p0) fun j7 =>
  Option.bind (f_X10_put F S4 j7 x1 p2) fun S9 =>
  Option.bind (sr S9 202 p0) fun j12 =>
  Option.bind (f_X10_put F S9 j12 x1 p3) fun S14 =>
  if 60 ≤ (si S14 204 p0) then
  (lt (ui S14 203 p0 (((si S14 203 p0) + 1) - ((si S14 203 p0) + 1) / 60 * 60)) fun S18 =>
  some S18)
  else
  (lt (ui S14 204 p0 ((si S14 204 p0) + 1)) fun S19 =>
  some S19)
def f_X8_bounce_L70 (F : Nat) (k5 : St → Nat → Int32 → Int32 → Int32 → Int32 → Option (Int32 × St)) (S0 : St) (v0 : Nat) (v1 : Int32) (v2 : Int32) (v3 : Int32) (v4 : Int32) : Option (Int32 × St) :=
  lt (v4 + 1) fun x1 =>
  k5 S0 v0 v1 v2 v3 x1
def f_X8_bounce_L5 (F : Nat) : Nat → St → Nat → Int32 → Int32 → Int32 → Int32 → Option (Int32 × St)
  | 0, _, _, _, _, _, _ => none
  | fu + 1, S0, v0, v1, v2, v3, v4 =>
    Option.bind (sr S0 700 v0) fun j3 =>
    Option.bind (sr S0 606 j3) fun j4 =>
    if (si S0 401 j4) ≤ v4 then
    (some (v3, S0))
    else
    (Option.bind (f_X10_hasBit F S0 v1 v4) fun z6 => lt z6.1 fun r8 => lt z6.2 fun S7 =>
    if r8 = 0 then
    (f_X8_bounce_L70 F (fun a0 a1 a2 a3 a4 a5 => f_X8_bounce_L5 F fu a0 a1 a2 a3 a4 a5) S7 v0 v1 v2 v3 v4)
    else
    (Option.bind (f_X8_usageOf F S7 v0 v4) fun z11 => lt z11.1 fun r13 => lt z11.2 fun S12 =>
    Option.bind (sr S12 704 v0) fun j15 =>
    Option.bind (f_X10_at F S12 j15 v4) fun z16 => lt z16.1 fun r18 => lt z16.2 fun S17 =>
    if (r13 + v2) ≤ r18 then
    (f_X8_bounce_L70 F (fun a0 a1 a2 a3 a4 a5 => f_X8_bounce_L5 F fu a0 a1 a2 a3 a4 a5) S17 v0 v1 v2 v3 v4)
    else
    (lt (v3 ||| (1 <<< (v4 &&& 31))) fun x21 =>
    Option.bind (sr S17 711 v0) fun j22 =>
    Option.bind (f_X2_note F S17 j22 (si S17 701 v0) ((2 : Int32)) v4) fun S24 =>
    f_X8_bounce_L70 F (fun a0 a1 a2 a3 a4 a5 => f_X8_bounce_L5 F fu a0 a1 a2 a3 a4 a5) S24 v0 v1 v2 x21 v4)))
def f_X8_bounce (F : Nat) (S0 : St) (p0 : Nat) (p1 : Int32) (p2 : Int32) : Option (Int32 × St) :=
  f_X8_bounce_L5 F F S0 p0 p1 p2 0 0
def f_X0_addRange_L3 (F : Nat) : Nat → St → Nat → Nat → Int32 → Int32 → Option (St)
  | 0, _, _, _, _, _ => none
  | fu + 1, S0, v0, v1, v3, v4 =>
    if v3 ≤ v4 then
    (some S0)
    else
    (Option.bind (f_X0_byteAt F S0 v1 v4) fun z2 => lt z2.1 fun r4 => lt z2.2 fun S3 =>
    Option.bind (f_X0_add F S3 v0 r4) fun S7 =>
    lt (v4 + 1) fun x10 =>
    (fun a0 a1 a2 a3 a4 => f_X0_addRange_L3 F fu a0 a1 a2 a3 a4) S7 v0 v1 v3 x10)
def f_X0_addRange (F : Nat) (S0 : St) (p0 : Nat) (p1 : Nat) (p2 : Int32) (p3 : Int32) : Option (St) :=
  f_X0_addRange_L3 F F S0 p0 p1 p3 p2
def f_X1_copyOfPlace (F : Nat) (S0 : St) (n : Nat) (p0 : Nat) (p1 : Int32) : Option (Option Nat × St × Nat) :=
  lt (nob S0 n) fun S4 => lt (n + 1) fun n5 =>
  Option.bind (f_X1_sizeAt F S4 p0 p1) fun z7 => lt z7.1 fun r9 => lt z7.2 fun S8 =>
  Option.bind (f_X0_init F S8 n5 n r9) fun z11 => lt z11.1 fun S12 => lt z11.2 fun n14 =>
  Option.bind (sr S12 100 p0) fun j18 =>
  Option.bind (sr S12 101 p0) fun j19 =>
  Option.bind (f_X10_at F S12 j19 p1) fun z20 => lt z20.1 fun r22 => lt z20.2 fun S21 =>
  Option.bind (sr S21 102 p0) fun j24 =>
  Option.bind (f_X10_at F S21 j24 p1) fun z25 => lt z25.1 fun r27 => lt z25.2 fun S26 =>
  Option.bind (f_X0_addRange F S26 n j18 r22 r27) fun S30 =>
  some ((some n), S30, n14)
def f_X9_numberFor_L52 (F : Nat) (S0 : St) (nL : Nat) (v0 : Nat) (v3 : Int32) (v5 : Int32) : Option (Int32 × St × Nat) :=
  Option.bind (sr S0 804 v0) fun j1 =>
  Option.bind (f_X10_put F S0 j1 v5 v3) fun S3 =>
  Option.bind (sr S3 805 v0) fun j6 =>
  Option.bind (f_X10_put F S3 j6 v5 ((0 : Int32))) fun S8 =>
  Option.bind (sr S8 806 v0) fun j11 =>
  Option.bind (f_X10_put F S8 j11 v5 (((-1) : Int32))) fun S13 =>
  lt (ui S13 800 v0 ((si S13 800 v0) + 1)) fun S16 =>
  lt (ui S16 801 v0 ((si S16 801 v0) + 1)) fun S17 =>
  some (v5, S17, nL)
def f_X9_numberFor (F : Nat) (S0 : St) (n : Nat) (p0 : Nat) (p1 : Nat) (p2 : Int32) (p3 : Int32) : Option (Int32 × St × Nat) :=
  Option.bind (f_X9_numberOf F S0 p0 p1 p2) fun z35 => lt z35.1 fun r37 => lt z35.2 fun S36 =>
  if ¬ r37 = ((-1)) then
  (some (r37, S36, n))
  else
  (Option.bind (sr S36 803 p0) fun j40 =>
  if (si S36 800 p0) < (nI (ln S36 j40)) then
  (lt (si S36 800 p0) fun x42 =>
  if x42 < 0 then
  (f_X9_numberFor_L52 F S36 n p0 p3 x42)
  else
  (Option.bind (sr S36 803 p0) fun j44 =>
  Option.bind (f_X1_copyOfPlace F S36 n p1 p2) fun z45 => lt z45.1 fun r47 => lt z45.2.1 fun S46 => lt z45.2.2 fun n48 =>
  Option.bind r47 fun j52 =>
  cki x42 (ln S46 j44) <|
  lt (uar S46 j44 (Int32.toNatClampNeg x42) (some j52)) fun S54 =>
  f_X9_numberFor_L52 F S54 n48 p0 p3 x42))
  else
  (some (r37, S36, n)))
def f_X9_addKeeper (F : Nat) (S0 : St) (p0 : Nat) (p1 : Int32) : Option (Int32 × St) :=
  Option.bind (sr S0 805 p0) fun j1 =>
  Option.bind (sr S0 805 p0) fun j2 =>
  Option.bind (f_X10_at F S0 j2 p1) fun z3 => lt z3.1 fun r5 => lt z3.2 fun S4 =>
  Option.bind (f_X10_put F S4 j1 p1 (r5 + 1)) fun S8 =>
  Option.bind (f_X9_isDead F S8 p0 p1) fun z11 => lt z11.1 fun r13 => lt z11.2 fun S12 =>
  if ¬ r13 = 0 then
  (Option.bind (sr S12 806 p0) fun j16 =>
  Option.bind (f_X10_put F S12 j16 p1 (((-1) : Int32))) fun S18 =>
  lt (ui S18 802 p0 ((si S18 802 p0) - 1)) fun S21 =>
  some (1, S21))
  else
  (some (0, S12))
def f_X7_wordOfHold (F : Nat) (S0 : St) (p0 : Nat) (p1 : Int32) : Option (Int64 × St) :=
  if p1 < 0 then
  (some (0, S0))
  else
  (Option.bind (sr S0 615 p0) fun j2 =>
  if (nI (ln S0 j2)) ≤ p1 then
  (some (0, S0))
  else
  (Option.bind (sr S0 615 p0) fun j4 =>
  cki p1 (ln S0 j4) <|
  some (al S0 j4 (Int32.toNatClampNeg p1), S0)))
def f_X0_hasWord_L50 (F : Nat) (k5 : St → Nat → Int64 → Int64 → Int32 → Option (Int32 × St)) (S0 : St) (v0 : Nat) (v1 : Int64) (v3 : Int64) (v5 : Int32) : Option (Int32 × St) :=
  lt (v5 + 1) fun x1 =>
  k5 S0 v0 v1 v3 x1
def f_X0_hasWord_L5 (F : Nat) : Nat → St → Nat → Int64 → Int64 → Int32 → Option (Int32 × St)
  | 0, _, _, _, _, _ => none
  | fu + 1, S0, v0, v1, v3, v5 =>
    if (si S0 1 v0) ≤ v5 then
    (if ¬ (lg_cmp v3 v1) = 0 then
    (some (0, S0))
    else
    (some (1, S0)))
    else
    (Option.bind (f_X0_byteAt F S0 v0 v5) fun z5 => lt z5.1 fun r7 => lt z5.2 fun S6 =>
    Option.bind (f_X10_isLetter F S6 r7) fun z9 => lt z9.1 fun r11 => lt z9.2 fun S10 =>
    if r11 = 0 then
    (if ¬ (lg_cmp v3 v1) = 0 then
    (f_X0_hasWord_L50 F (fun a0 a1 a2 a3 a4 => f_X0_hasWord_L5 F fu a0 a1 a2 a3 a4) S10 v0 v1 0 v5)
    else
    (some (1, S10)))
    else
    (Option.bind (f_X10_withLetter F S10 v3 r7) fun z15 => lt z15.1 fun r17 => lt z15.2 fun S16 =>
    f_X0_hasWord_L50 F (fun a0 a1 a2 a3 a4 => f_X0_hasWord_L5 F fu a0 a1 a2 a3 a4) S16 v0 v1 r17 v5))
def f_X0_hasWord (F : Nat) (S0 : St) (p0 : Nat) (p1 : Int64) : Option (Int32 × St) :=
  f_X0_hasWord_L5 F F S0 p0 p1 0 0
def f_X8_hasWord_L18 (F : Nat) : Nat → St → Nat → Int64 → Nat → Int32 → Int32 → Option (Int32 × St)
  | 0, _, _, _, _, _, _ => none
  | fu + 1, S0, v0, v2, v4, v5, v6 =>
    if v5 ≤ v6 then
    (some (0, S0))
    else
    (cki v6 (ln S0 v4) <|
    lt (ai S0 v4 (Int32.toNatClampNeg v6)) fun x3 =>
    Option.bind (sr S0 710 v0) fun j4 =>
    Option.bind (f_X9_bytesOf F S0 j4 x3) fun z5 => lt z5.1 fun r7 => lt z5.2 fun S6 =>
    Option.bind r7 fun j9 =>
    Option.bind (f_X0_hasWord F S6 j9 v2) fun z10 => lt z10.1 fun r12 => lt z10.2 fun S11 =>
    if r12 = 0 then
    (lt (v6 + 1) fun x15 =>
    (fun a0 a1 a2 a3 a4 a5 => f_X8_hasWord_L18 F fu a0 a1 a2 a3 a4 a5) S11 v0 v2 v4 v5 x15)
    else
    (some (1, S11)))
def f_X8_hasWord (F : Nat) (S0 : St) (p0 : Nat) (p1 : Int32) (p2 : Int64) : Option (Int32 × St) :=
  Option.bind (f_X8_messageAt F S0 p0 p1) fun z31 => lt z31.1 fun r33 => lt z31.2 fun S32 =>
  Option.bind r33 fun j35 =>
  Option.bind (sr S32 303 j35) fun j36 =>
  lt (nI (ln S32 j36)) fun x37 =>
  f_X8_hasWord_L18 F F S32 p0 p2 j36 x37 0
def f_X8_holdsAskingFor_L99 (F : Nat) (k4 : St → Nat → Int32 → Int32 → Int32 → Option (Int32 × St)) (S0 : St) (v0 : Nat) (v1 : Int32) (v2 : Int32) (v3 : Int32) : Option (Int32 × St) :=
  lt (v3 + 1) fun x1 =>
  k4 S0 v0 v1 v2 x1
def f_X8_holdsAskingFor_L93 (F : Nat) (k4 : St → Nat → Int32 → Int32 → Int32 → Option (Int32 × St)) (S0 : St) (v0 : Nat) (v1 : Int32) (v2 : Int32) (v3 : Int32) : Option (Int32 × St) :=
  lt (v2 ||| (1 <<< (v3 &&& 31))) fun x3 =>
  f_X8_holdsAskingFor_L99 F k4 S0 v0 v1 x3 v3
def f_X8_holdsAskingFor_L69 (F : Nat) (k4 : St → Nat → Int32 → Int32 → Int32 → Option (Int32 × St)) (S0 : St) (v0 : Nat) (v1 : Int32) (v2 : Int32) (v3 : Int32) (v4 : Int64) (s0 : Int32) : Option (Int32 × St) :=
  if s0 = 0 then
  (f_X8_holdsAskingFor_L99 F k4 S0 v0 v1 v2 v3)
  else
  (if (lg_cmp v4 0) = 0 then
  (f_X8_holdsAskingFor_L93 F k4 S0 v0 v1 v2 v3)
  else
  (Option.bind (f_X8_hasWord F S0 v0 v1 v4) fun z7 => lt z7.1 fun r9 => lt z7.2 fun S8 =>
  if r9 = 0 then
  (f_X8_holdsAskingFor_L99 F k4 S8 v0 v1 v2 v3)
  else
  (f_X8_holdsAskingFor_L93 F k4 S8 v0 v1 v2 v3)))
def f_X8_holdsAskingFor_L68 (F : Nat) (k4 : St → Nat → Int32 → Int32 → Int32 → Option (Int32 × St)) (S0 : St) (v0 : Nat) (v1 : Int32) (v2 : Int32) (v3 : Int32) (v4 : Int64) : Option (Int32 × St) :=
  f_X8_holdsAskingFor_L69 F k4 S0 v0 v1 v2 v3 v4 0
def f_X8_holdsAskingFor_L4 (F : Nat) : Nat → St → Nat → Int32 → Int32 → Int32 → Option (Int32 × St)
  | 0, _, _, _, _, _ => none
  | fu + 1, S0, v0, v1, v2, v3 =>
    Option.bind (sr S0 700 v0) fun j19 =>
    Option.bind (sr S0 611 j19) fun j20 =>
    if (si S0 401 j20) ≤ v3 then
    (some (v2, S0))
    else
    (Option.bind (sr S0 700 v0) fun j22 =>
    Option.bind (f_X7_wordOfHold F S0 j22 v3) fun z23 => lt z23.1 fun r25 => lt z23.2 fun S24 =>
    Option.bind (sr S24 700 v0) fun j27 =>
    Option.bind (sr S24 613 j27) fun j28 =>
    Option.bind (f_X10_at F S24 j28 v3) fun z29 => lt z29.1 fun r31 => lt z29.2 fun S30 =>
    if (si S24 701 v0) < r31 then
    (f_X8_holdsAskingFor_L68 F (fun a0 a1 a2 a3 a4 => f_X8_holdsAskingFor_L4 F fu a0 a1 a2 a3 a4) S30 v0 v1 v2 v3 r25)
    else
    (Option.bind (sr S30 700 v0) fun j34 =>
    Option.bind (sr S30 614 j34) fun j35 =>
    Option.bind (f_X10_at F S30 j35 v3) fun z36 => lt z36.1 fun r38 => lt z36.2 fun S37 =>
    if r38 < (si S30 701 v0) then
    (f_X8_holdsAskingFor_L68 F (fun a0 a1 a2 a3 a4 => f_X8_holdsAskingFor_L4 F fu a0 a1 a2 a3 a4) S37 v0 v1 v2 v3 r25)
    else
    (f_X8_holdsAskingFor_L69 F (fun a0 a1 a2 a3 a4 => f_X8_holdsAskingFor_L4 F fu a0 a1 a2 a3 a4) S37 v0 v1 v2 v3 r25 1)))
def f_X8_holdsAskingFor (F : Nat) (S0 : St) (p0 : Nat) (p1 : Int32) : Option (Int32 × St) :=
  f_X8_holdsAskingFor_L4 F F S0 p0 p1 0 0
def f_X8_addReferences_L69 (F : Nat) (k3 : St → Nat → Int32 → Int32 → Int32 → Int32 → Option (St)) (S0 : St) (v0 : Nat) (v1 : Int32) (v2 : Int32) (v3 : Int32) (v4 : Int32) (v5 : Int32) (s0 : Int32) (s1 : Int32) (s2 : Nat) : Option (St) :=
  Option.bind (f_X10_put F S0 s2 s1 s0) fun S2 =>
  Option.bind (sr S2 709 v0) fun j5 =>
  Option.bind (f_X10_put F S2 j5 v5 (si S2 701 v0)) fun S7 =>
  lt (v4 + 1) fun x10 =>
  k3 S7 v0 v1 v2 v3 x10
def f_X8_addReferences_L39 (F : Nat) (k3 : St → Nat → Int32 → Int32 → Int32 → Int32 → Option (St)) (S0 : St) (v0 : Nat) (v1 : Int32) (v2 : Int32) (v3 : Int32) (v4 : Int32) (v5 : Int32) (s0 : Int32) (s1 : Int32) (s2 : Nat) : Option (St) :=
  Option.bind (f_X10_put F S0 s2 s1 s0) fun S22 =>
  Option.bind (sr S22 708 v0) fun j25 =>
  if ¬ v3 = ((-1)) then
  (f_X8_addReferences_L69 F k3 S22 v0 v1 v2 v3 v4 v5 v3 v5 j25)
  else
  (Option.bind (sr S22 700 v0) fun j27 =>
  Option.bind (sr S22 607 j27) fun j28 =>
  Option.bind (f_X10_at F S22 j28 v4) fun z29 => lt z29.1 fun r31 => lt z29.2 fun S30 =>
  f_X8_addReferences_L69 F k3 S30 v0 v1 v2 v3 v4 v5 r31 v5 j25)
def f_X8_addReferences_L3 (F : Nat) : Nat → St → Nat → Int32 → Int32 → Int32 → Int32 → Option (St)
  | 0, _, _, _, _, _, _ => none
  | fu + 1, S0, v0, v1, v2, v3, v4 =>
    if 10 ≤ v4 then
    (some S0)
    else
    (lt ((v1 * 10) + v4) fun x46 =>
    Option.bind (sr S0 707 v0) fun j47 =>
    Option.bind (f_X10_hasBit F S0 v2 v4) fun z48 => lt z48.1 fun r50 => lt z48.2 fun S49 =>
    if r50 = 0 then
    (f_X8_addReferences_L39 F (fun a0 a1 a2 a3 a4 a5 => f_X8_addReferences_L3 F fu a0 a1 a2 a3 a4 a5) S49 v0 v1 v2 v3 v4 x46 ((-1)) x46 j47)
    else
    (f_X8_addReferences_L39 F (fun a0 a1 a2 a3 a4 a5 => f_X8_addReferences_L3 F fu a0 a1 a2 a3 a4 a5) S49 v0 v1 v2 v3 v4 x46 0 x46 j47))
def f_X8_addReferences (F : Nat) (S0 : St) (p0 : Nat) (p1 : Int32) (p2 : Int32) (p3 : Int32) : Option (St) :=
  f_X8_addReferences_L3 F F S0 p0 p1 p2 p3 0
def f_X8_receive_L600156 (F : Nat) (S0 : St) (nL : Nat) (v0 : Nat) (v3 : Int32) (v4 : Int32) (v5 : Int32) (v6 : Nat) : Option (Int32 × St × Nat) :=
  lt (ui S0 705 v0 ((si S0 705 v0) + 1)) fun S1 =>
  Option.bind (f_X8_holdsAskingFor F S1 v0 v5) fun z2 => lt z2.1 fun r4 => lt z2.2 fun S3 =>
  lt (ui S3 304 v6 r4) fun S6 =>
  Option.bind (f_X8_addReferences F S6 v0 v5 (v3 &&& ((si S6 702 v0) ^^^ ((-1)))) v4) fun S8 =>
  Option.bind (sr S8 711 v0) fun j11 =>
  Option.bind (f_X2_note F S8 j11 (si S8 701 v0) ((1 : Int32)) v5) fun S13 =>
  some (v5, S13, nL)
def f_X8_receive_L600132 (F : Nat) (S0 : St) (nL : Nat) (v0 : Nat) (v3 : Int32) (v4 : Int32) (v5 : Int32) (v6 : Nat) : Option (Int32 × St × Nat) :=
  if v5 < 0 then
  (f_X8_receive_L600156 F S0 nL v0 v3 v4 v5 v6)
  else
  (Option.bind (sr S0 706 v0) fun j32 =>
  if (nI (ln S0 j32)) ≤ v5 then
  (f_X8_receive_L600156 F S0 nL v0 v3 v4 v5 v6)
  else
  (Option.bind (sr S0 706 v0) fun j34 =>
  cki v5 (ln S0 j34) <|
  lt (uar S0 j34 (Int32.toNatClampNeg v5) (some v6)) fun S36 =>
  f_X8_receive_L600156 F S36 nL v0 v3 v4 v5 v6))
def f_X8_receive_L300126 (F : Nat) (S0 : St) (nL : Nat) (v0 : Nat) (v1 : Nat) (v3 : Int32) (v4 : Int32) (v5 : Int32) (v6 : Nat) (v7 : Int32) : Option (Int32 × St × Nat) :=
  lt (v7 + 1) fun x43 =>
  if (si S0 103 v1) ≤ x43 then
  (f_X8_receive_L600132 F S0 nL v0 v3 v4 v5 v6)
  else
  (none)
def f_X8_receive_L200126 (F : Nat) (S0 : St) (nL : Nat) (v0 : Nat) (v1 : Nat) (v3 : Int32) (v4 : Int32) (v5 : Int32) (v6 : Nat) (v7 : Int32) : Option (Int32 × St × Nat) :=
  lt (v7 + 1) fun x47 =>
  if (si S0 103 v1) ≤ x47 then
  (f_X8_receive_L600132 F S0 nL v0 v3 v4 v5 v6)
  else
  (Option.bind (sr S0 710 v0) fun j49 =>
  Option.bind (f_X9_numberFor F S0 nL j49 v1 x47 v5) fun z50 => lt z50.1 fun r52 => lt z50.2.1 fun S51 => lt z50.2.2 fun n53 =>
  Option.bind (sr S51 303 v6) fun j57 =>
  Option.bind (f_X10_put F S51 j57 x47 r52) fun S59 =>
  Option.bind (f_X1_isFirstOfItsKind F S59 v1 x47) fun z62 => lt z62.1 fun r64 => lt z62.2 fun S63 =>
  if r64 = 0 then
  (f_X8_receive_L300126 F S63 n53 v0 v1 v3 v4 v5 v6 x47)
  else
  (Option.bind (sr S63 710 v0) fun j67 =>
  Option.bind (f_X9_addKeeper F S63 j67 r52) fun z68 => lt z68.1 fun r70 => lt z68.2 fun S69 =>
  if r70 = 0 then
  (f_X8_receive_L300126 F S69 n53 v0 v1 v3 v4 v5 v6 x47)
  else
  (Option.bind (sr S69 711 v0) fun j73 =>
  Option.bind (f_X2_note F S69 j73 (si S69 701 v0) ((7 : Int32)) r52) fun S75 =>
  f_X8_receive_L300126 F S75 n53 v0 v1 v3 v4 v5 v6 x47)))
def f_X8_receive_L100126 (F : Nat) (S0 : St) (nL : Nat) (v0 : Nat) (v1 : Nat) (v3 : Int32) (v4 : Int32) (v5 : Int32) (v6 : Nat) (v7 : Int32) : Option (Int32 × St × Nat) :=
  lt (v7 + 1) fun x109 =>
  if (si S0 103 v1) ≤ x109 then
  (f_X8_receive_L600132 F S0 nL v0 v3 v4 v5 v6)
  else
  (Option.bind (sr S0 710 v0) fun j111 =>
  Option.bind (f_X9_numberFor F S0 nL j111 v1 x109 v5) fun z112 => lt z112.1 fun r114 => lt z112.2.1 fun S113 => lt z112.2.2 fun n115 =>
  Option.bind (sr S113 303 v6) fun j119 =>
  Option.bind (f_X10_put F S113 j119 x109 r114) fun S121 =>
  Option.bind (f_X1_isFirstOfItsKind F S121 v1 x109) fun z124 => lt z124.1 fun r126 => lt z124.2 fun S125 =>
  if r126 = 0 then
  (f_X8_receive_L200126 F S125 n115 v0 v1 v3 v4 v5 v6 x109)
  else
  (Option.bind (sr S125 710 v0) fun j129 =>
  Option.bind (f_X9_addKeeper F S125 j129 r114) fun z130 => lt z130.1 fun r132 => lt z130.2 fun S131 =>
  if r132 = 0 then
  (f_X8_receive_L200126 F S131 n115 v0 v1 v3 v4 v5 v6 x109)
  else
  (Option.bind (sr S131 711 v0) fun j135 =>
  Option.bind (f_X2_note F S131 j135 (si S131 701 v0) ((7 : Int32)) r114) fun S137 =>
  f_X8_receive_L200126 F S137 n115 v0 v1 v3 v4 v5 v6 x109)))
def f_X8_receive_L126 (F : Nat) (S0 : St) (nL : Nat) (v0 : Nat) (v1 : Nat) (v3 : Int32) (v4 : Int32) (v5 : Int32) (v6 : Nat) (v7 : Int32) : Option (Int32 × St × Nat) :=
  lt (v7 + 1) fun x171 =>
  if (si S0 103 v1) ≤ x171 then
  (f_X8_receive_L600132 F S0 nL v0 v3 v4 v5 v6)
  else
  (Option.bind (sr S0 710 v0) fun j173 =>
  Option.bind (f_X9_numberFor F S0 nL j173 v1 x171 v5) fun z174 => lt z174.1 fun r176 => lt z174.2.1 fun S175 => lt z174.2.2 fun n177 =>
  Option.bind (sr S175 303 v6) fun j181 =>
  Option.bind (f_X10_put F S175 j181 x171 r176) fun S183 =>
  Option.bind (f_X1_isFirstOfItsKind F S183 v1 x171) fun z186 => lt z186.1 fun r188 => lt z186.2 fun S187 =>
  if r188 = 0 then
  (f_X8_receive_L100126 F S187 n177 v0 v1 v3 v4 v5 v6 x171)
  else
  (Option.bind (sr S187 710 v0) fun j191 =>
  Option.bind (f_X9_addKeeper F S187 j191 r176) fun z192 => lt z192.1 fun r194 => lt z192.2 fun S193 =>
  if r194 = 0 then
  (f_X8_receive_L100126 F S193 n177 v0 v1 v3 v4 v5 v6 x171)
  else
  (Option.bind (sr S193 711 v0) fun j197 =>
  Option.bind (f_X2_note F S193 j197 (si S193 701 v0) ((7 : Int32)) r176) fun S199 =>
  f_X8_receive_L100126 F S199 n177 v0 v1 v3 v4 v5 v6 x171)))
def f_X8_receive (F : Nat) (S0 : St) (n : Nat) (p0 : Nat) (p1 : Nat) (p2 : Int32) (p3 : Int32) (p4 : Int32) : Option (Int32 × St × Nat) :=
  Option.bind (f_X1_sizeOfAll F S0 p1) fun z233 => lt z233.1 fun r235 => lt z233.2 fun S234 =>
  Option.bind (f_X8_bounce F S234 p0 p3 r235) fun z237 => lt z237.1 fun r239 => lt z237.2 fun S238 =>
  lt (ui S238 702 p0 r239) fun S241 =>
  if ¬ (si S241 702 p0) = p3 then
  (lt (si S241 705 p0) fun x243 =>
  lt (nob S241 n) fun S247 => lt (n + 1) fun n248 =>
  Option.bind (f_X1_sizeOfAll F S247 p1) fun z250 => lt z250.1 fun r252 => lt z250.2 fun S251 =>
  Option.bind (f_X4_init F S251 n248 n p2 (si S247 701 p0) r252 (si S251 103 p1)) fun z254 => lt z254.1 fun S255 => lt z254.2 fun n257 =>
  if (si S255 103 p1) ≤ 0 then
  (f_X8_receive_L600132 F S255 n257 p0 p3 p4 x243 n)
  else
  (Option.bind (sr S255 710 p0) fun j262 =>
  Option.bind (f_X9_numberFor F S255 n257 j262 p1 ((0 : Int32)) x243) fun z263 => lt z263.1 fun r265 => lt z263.2.1 fun S264 => lt z263.2.2 fun n266 =>
  Option.bind (sr S264 303 n) fun j270 =>
  Option.bind (f_X10_put F S264 j270 ((0 : Int32)) r265) fun S272 =>
  Option.bind (f_X1_isFirstOfItsKind F S272 p1 ((0 : Int32))) fun z275 => lt z275.1 fun r277 => lt z275.2 fun S276 =>
  if r277 = 0 then
  (f_X8_receive_L126 F S276 n266 p0 p1 p3 p4 x243 n 0)
  else
  (Option.bind (sr S276 710 p0) fun j280 =>
  Option.bind (f_X9_addKeeper F S276 j280 r265) fun z281 => lt z281.1 fun r283 => lt z281.2 fun S282 =>
  if r283 = 0 then
  (f_X8_receive_L126 F S282 n266 p0 p1 p3 p4 x243 n 0)
  else
  (Option.bind (sr S282 711 p0) fun j286 =>
  Option.bind (f_X2_note F S282 j286 (si S282 701 p0) ((7 : Int32)) r265) fun S288 =>
  f_X8_receive_L126 F S288 n266 p0 p1 p3 p4 x243 n 0))))
  else
  (some ((-2), S241, n))
def f_X10_deliver_L98 (F : Nat) (S0 : St) (nL : Nat) : Option ((Nat ⊕ Int32) × St × Nat) :=
  some (.inl 1, S0, nL)
def f_X10_deliver_L56 (F : Nat) (S0 : St) (nL : Nat) : Option ((Nat ⊕ Int32) × St × Nat) :=
  some (.inl 2, S0, nL)
def f_X10_deliver_L15 (F : Nat) (S0 : St) (nL : Nat) (v0 : Nat) (v1 : Int32) (v2 : Int32) (v3 : Int32) : Option ((Nat ⊕ Int32) × St × Nat) :=
  Option.bind (sr S0 905 v0) fun j1 =>
  Option.bind (sr S0 700 j1) fun j2 =>
  Option.bind (f_X7_allUsers F S0 j2) fun z3 => lt z3.1 fun r5 => lt z3.2 fun S4 =>
  if (v2 &&& (r5 ^^^ ((-1)))) = 0 then
  (if v2 = 0 then
  (f_X10_deliver_L56 F S4 nL)
  else
  (Option.bind (sr S4 902 v0) fun j9 =>
  Option.bind (f_X1_cut F S4 j9) fun z10 => lt z10.1 fun r12 => lt z10.2 fun S11 =>
  if ¬ r12 = 0 then
  (Option.bind (sr S11 905 v0) fun j15 =>
  if 120 ≤ (si S11 705 j15) then
  (f_X10_deliver_L98 F S11 nL)
  else
  (Option.bind (sr S11 905 v0) fun j17 =>
  Option.bind (sr S11 710 j17) fun j18 =>
  Option.bind (sr S11 902 v0) fun j19 =>
  Option.bind (f_X9_bytesWith F S11 j18 j19) fun z20 => lt z20.1 fun r22 => lt z20.2 fun S21 =>
  if r22 ≤ 8000 then
  (Option.bind (f_X10_remember F S21 v0) fun S26 =>
  Option.bind (sr S26 905 v0) fun j29 =>
  Option.bind (sr S26 902 v0) fun j30 =>
  Option.bind (f_X8_receive F S26 nL j29 j30 v1 v2 v3) fun z31 => lt z31.1 fun r33 => lt z31.2.1 fun S32 => lt z31.2.2 fun n34 =>
  Option.bind (sr S32 900 v0) fun j38 =>
  Option.bind (f_X0_cutTo F S32 j38 ((0 : Int32))) fun S40 =>
  some (.inr r33, S40, n34))
  else
  (f_X10_deliver_L98 F S21 nL)))
  else
  (f_X10_deliver_L56 F S11 nL)))
  else
  (some (.inl 4, S4, nL))
def f_X10_deliver (F : Nat) (S0 : St) (n : Nat) (p0 : Nat) (p1 : Int32) (p2 : Int32) (p3 : Int32) : Option ((Nat ⊕ Int32) × St × Nat) :=
  Option.bind (f_X10_needUser F S0 p0 p1) fun z85 => lt z85.2 fun S86 =>
  sm z85.1 (fun x => some (.inl x, S86, n)) (fun r87 =>
  if p3 = ((-1)) then
  (f_X10_deliver_L15 F S86 n p0 p1 p2 p3)
  else
  (Option.bind (f_X10_needClass F S86 p0 p3) fun z94 => lt z94.2 fun S95 =>
  sm z94.1 (fun x => some (.inl x, S95, n)) (fun r96 =>
  f_X10_deliver_L15 F S95 n p0 p1 p2 p3)))
def f_X10_bounced (F : Nat) (S0 : St) (p0 : Nat) : Option (Int32 × St) :=
  Option.bind (sr S0 905 p0) fun j1 =>
  some (si S0 702 j1, S0)
def f_X10_messageCount (F : Nat) (S0 : St) (p0 : Nat) : Option (Int32 × St) :=
  Option.bind (sr S0 905 p0) fun j1 =>
  some (si S0 705 j1, S0)
def f_X10_needMessage_L15 (F : Nat) (S0 : St) : Option ((Nat ⊕ Unit) × St) :=
  some (.inl 4, S0)
def f_X10_needMessage (F : Nat) (S0 : St) (p0 : Nat) (p1 : Int32) : Option ((Nat ⊕ Unit) × St) :=
  if p1 < 0 then
  (f_X10_needMessage_L15 F S0)
  else
  (Option.bind (sr S0 905 p0) fun j2 =>
  if p1 < (si S0 705 j2) then
  (some (.inr (), S0))
  else
  (f_X10_needMessage_L15 F S0))
def f_X8_keepsMessage_L34 (F : Nat) (k2 : St → Nat → Int32 → Int32 → Option (Int32 × St)) (S0 : St) (v0 : Nat) (v1 : Int32) (v2 : Int32) : Option (Int32 × St) :=
  lt (v2 + 1) fun x1 =>
  k2 S0 v0 v1 x1
def f_X8_keepsMessage_L2 (F : Nat) : Nat → St → Nat → Int32 → Int32 → Option (Int32 × St)
  | 0, _, _, _, _ => none
  | fu + 1, S0, v0, v1, v2 =>
    Option.bind (sr S0 700 v0) fun j3 =>
    Option.bind (sr S0 606 j3) fun j4 =>
    if (si S0 401 j4) ≤ v2 then
    (some (0, S0))
    else
    (Option.bind (f_X8_stateOf F S0 v0 v1 v2) fun z6 => lt z6.1 fun r8 => lt z6.2 fun S7 =>
    if r8 < 0 then
    (f_X8_keepsMessage_L34 F (fun a0 a1 a2 a3 => f_X8_keepsMessage_L2 F fu a0 a1 a2 a3) S7 v0 v1 v2)
    else
    (if 2 < r8 then
    (f_X8_keepsMessage_L34 F (fun a0 a1 a2 a3 => f_X8_keepsMessage_L2 F fu a0 a1 a2 a3) S7 v0 v1 v2)
    else
    (some (1, S7))))
def f_X8_keepsMessage (F : Nat) (S0 : St) (p0 : Nat) (p1 : Int32) : Option (Int32 × St) :=
  f_X8_keepsMessage_L2 F F S0 p0 p1 0
def f_X10_message (F : Nat) (S0 : St) (p0 : Nat) (p1 : Int32) (p2 : Int32) : Option ((Nat ⊕ Int32) × St) :=
  Option.bind (f_X10_needMessage F S0 p0 p1) fun z1 => lt z1.2 fun S2 =>
  sm z1.1 (fun x => some (.inl x, S2)) (fun r3 =>
  Option.bind (f_X10_needWhat F S2 p2 ((4 : Int32))) fun z9 => lt z9.2 fun S10 =>
  sm z9.1 (fun x => some (.inl x, S10)) (fun r11 =>
  Option.bind (sr S10 905 p0) fun j17 =>
  Option.bind (f_X8_messageAt F S10 j17 p1) fun z18 => lt z18.1 fun r20 => lt z18.2 fun S19 =>
  Option.bind r20 fun j22 =>
  if p2 = 0 then
  (some (.inr (si S19 300 j22), S19))
  else
  (if p2 = 1 then
  (some (.inr (si S19 301 j22), S19))
  else
  (if p2 = 2 then
  (Option.bind (sr S19 303 j22) fun j26 =>
  some (.inr (nI (ln S19 j26)), S19))
  else
  (if p2 = 3 then
  (some (.inr (si S19 302 j22), S19))
  else
  (Option.bind (sr S19 905 p0) fun j28 =>
  Option.bind (f_X8_keepsMessage F S19 j28 p1) fun z29 => lt z29.1 fun r31 => lt z29.2 fun S30 =>
  if r31 = 0 then
  (some (.inr 0, S30))
  else
  (some (.inr 1, S30))))))))
def f_X10_partOf_L27 (F : Nat) (S0 : St) : Option ((Nat ⊕ Int32) × St) :=
  some (.inl 4, S0)
def f_X10_partOf (F : Nat) (S0 : St) (p0 : Nat) (p1 : Int32) (p2 : Int32) : Option ((Nat ⊕ Int32) × St) :=
  Option.bind (f_X10_needMessage F S0 p0 p1) fun z1 => lt z1.2 fun S2 =>
  sm z1.1 (fun x => some (.inl x, S2)) (fun r3 =>
  Option.bind (sr S2 905 p0) fun j9 =>
  Option.bind (f_X8_messageAt F S2 j9 p1) fun z10 => lt z10.1 fun r12 => lt z10.2 fun S11 =>
  Option.bind r12 fun j14 =>
  if p2 < 0 then
  (f_X10_partOf_L27 F S11)
  else
  (Option.bind (sr S11 303 j14) fun j16 =>
  if p2 < (nI (ln S11 j16)) then
  (Option.bind (sr S11 303 j14) fun j18 =>
  Option.bind (f_X10_at F S11 j18 p2) fun z19 => lt z19.1 fun r21 => lt z19.2 fun S20 =>
  some (.inr r21, S20))
  else
  (f_X10_partOf_L27 F S11)))
def f_X8_usersIn_L51 (F : Nat) (k6 : St → Nat → Int32 → Int32 → Int32 → Int32 → Int32 → Option (Int32 × St)) (S0 : St) (v0 : Nat) (v1 : Int32) (v2 : Int32) (v3 : Int32) (v4 : Int32) (v5 : Int32) : Option (Int32 × St) :=
  lt (v5 + 1) fun x1 =>
  k6 S0 v0 v1 v2 v3 v4 x1
def f_X8_usersIn_L6 (F : Nat) : Nat → St → Nat → Int32 → Int32 → Int32 → Int32 → Int32 → Option (Int32 × St)
  | 0, _, _, _, _, _, _, _ => none
  | fu + 1, S0, v0, v1, v2, v3, v4, v5 =>
    Option.bind (sr S0 700 v0) fun j3 =>
    Option.bind (sr S0 606 j3) fun j4 =>
    if (si S0 401 j4) ≤ v5 then
    (some (v4, S0))
    else
    (Option.bind (f_X8_stateOf F S0 v0 v1 v5) fun z6 => lt z6.1 fun r8 => lt z6.2 fun S7 =>
    if r8 < v2 then
    (f_X8_usersIn_L51 F (fun a0 a1 a2 a3 a4 a5 a6 => f_X8_usersIn_L6 F fu a0 a1 a2 a3 a4 a5 a6) S7 v0 v1 v2 v3 v4 v5)
    else
    (if v3 < r8 then
    (f_X8_usersIn_L51 F (fun a0 a1 a2 a3 a4 a5 a6 => f_X8_usersIn_L6 F fu a0 a1 a2 a3 a4 a5 a6) S7 v0 v1 v2 v3 v4 v5)
    else
    (lt (v4 ||| (1 <<< (v5 &&& 31))) fun x12 =>
    f_X8_usersIn_L51 F (fun a0 a1 a2 a3 a4 a5 a6 => f_X8_usersIn_L6 F fu a0 a1 a2 a3 a4 a5 a6) S7 v0 v1 v2 v3 x12 v5)))
def f_X8_usersIn (F : Nat) (S0 : St) (p0 : Nat) (p1 : Int32) (p2 : Int32) (p3 : Int32) : Option (Int32 × St) :=
  f_X8_usersIn_L6 F F S0 p0 p1 p2 p3 0 0
def f_X10_readers (F : Nat) (S0 : St) (p0 : Nat) (p1 : Int32) : Option ((Nat ⊕ Int32) × St) :=
  Option.bind (f_X10_needMessage F S0 p0 p1) fun z1 => lt z1.2 fun S2 =>
  sm z1.1 (fun x => some (.inl x, S2)) (fun r3 =>
  Option.bind (sr S2 905 p0) fun j9 =>
  Option.bind (f_X8_usersIn F S2 j9 p1 ((0 : Int32)) ((0 : Int32))) fun z10 => lt z10.1 fun r12 => lt z10.2 fun S11 =>
  some (.inr r12, S11))
def f_X10_hidden (F : Nat) (S0 : St) (p0 : Nat) (p1 : Int32) : Option ((Nat ⊕ Int32) × St) :=
  Option.bind (f_X10_needMessage F S0 p0 p1) fun z1 => lt z1.2 fun S2 =>
  sm z1.1 (fun x => some (.inl x, S2)) (fun r3 =>
  Option.bind (sr S2 905 p0) fun j9 =>
  Option.bind (f_X8_usersIn F S2 j9 p1 ((1 : Int32)) ((2 : Int32))) fun z10 => lt z10.1 fun r12 => lt z10.2 fun S11 =>
  some (.inr r12, S11))
def f_X10_needReference (F : Nat) (S0 : St) (p0 : Nat) (p1 : Int32) (p2 : Int32) : Option ((Nat ⊕ Unit) × St) :=
  Option.bind (sr S0 905 p0) fun j1 =>
  Option.bind (f_X8_stateOf F S0 j1 p1 p2) fun z2 => lt z2.1 fun r4 => lt z2.2 fun S3 =>
  if ¬ r4 = ((-1)) then
  (some (.inr (), S3))
  else
  (some (.inl 4, S3))
def f_X10_state (F : Nat) (S0 : St) (p0 : Nat) (p1 : Int32) (p2 : Int32) : Option ((Nat ⊕ Int32) × St) :=
  Option.bind (f_X10_needReference F S0 p0 p1 p2) fun z1 => lt z1.2 fun S2 =>
  sm z1.1 (fun x => some (.inl x, S2)) (fun r3 =>
  Option.bind (sr S2 905 p0) fun j9 =>
  Option.bind (f_X8_stateOf F S2 j9 p1 p2) fun z10 => lt z10.1 fun r12 => lt z10.2 fun S11 =>
  some (.inr r12, S11))
def f_X8_retentionOf (F : Nat) (S0 : St) (p0 : Nat) (p1 : Int32) (p2 : Int32) : Option (Int32 × St) :=
  Option.bind (sr S0 708 p0) fun j1 =>
  Option.bind (f_X10_at F S0 j1 ((p1 * 10) + p2)) fun z2 => lt z2.1 fun r4 => lt z2.2 fun S3 =>
  some (r4, S3)
def f_X10_classOf (F : Nat) (S0 : St) (p0 : Nat) (p1 : Int32) (p2 : Int32) : Option ((Nat ⊕ Int32) × St) :=
  Option.bind (f_X10_needReference F S0 p0 p1 p2) fun z1 => lt z1.2 fun S2 =>
  sm z1.1 (fun x => some (.inl x, S2)) (fun r3 =>
  Option.bind (sr S2 905 p0) fun j9 =>
  Option.bind (f_X8_retentionOf F S2 j9 p1 p2) fun z10 => lt z10.1 fun r12 => lt z10.2 fun S11 =>
  some (.inr r12, S11))
def f_X10_enteredOn (F : Nat) (S0 : St) (p0 : Nat) (p1 : Int32) (p2 : Int32) : Option ((Nat ⊕ Int32) × St) :=
  Option.bind (f_X10_needReference F S0 p0 p1 p2) fun z1 => lt z1.2 fun S2 =>
  sm z1.1 (fun x => some (.inl x, S2)) (fun r3 =>
  Option.bind (sr S2 905 p0) fun j9 =>
  Option.bind (sr S2 709 j9) fun j10 =>
  Option.bind (f_X10_at F S2 j10 ((p1 * 10) + p2)) fun z11 => lt z11.1 fun r13 => lt z11.2 fun S12 =>
  some (.inr r13, S12))
def f_X8_expiryOf (F : Nat) (S0 : St) (p0 : Nat) (p1 : Int32) (p2 : Int32) : Option (Int32 × St) :=
  Option.bind (f_X8_retentionOf F S0 p0 p1 p2) fun z1 => lt z1.1 fun r3 => lt z1.2 fun S2 =>
  Option.bind (sr S2 700 p0) fun j5 =>
  Option.bind (f_X7_ladderFrom F S2 j5 r3) fun z6 => lt z6.1 fun r8 => lt z6.2 fun S7 =>
  Option.bind (f_X8_stateOf F S7 p0 p1 p2) fun z10 => lt z10.1 fun r12 => lt z10.2 fun S11 =>
  if ¬ r12 = 0 then
  (some ((-1), S11))
  else
  (if ¬ r8 = ((-1)) then
  (Option.bind (sr S11 700 p0) fun j16 =>
  Option.bind (sr S11 603 j16) fun j17 =>
  Option.bind (f_X10_at F S11 j17 r3) fun z18 => lt z18.1 fun r20 => lt z18.2 fun S19 =>
  Option.bind (sr S19 709 p0) fun j22 =>
  Option.bind (f_X10_at F S19 j22 ((p1 * 10) + p2)) fun z23 => lt z23.1 fun r25 => lt z23.2 fun S24 =>
  lt (if (r25 + r20) < ((si S24 701 p0) + 1) then ((si S24 701 p0) + 1) else (r25 + r20)) fun x27 =>
  some ((x27 + r8) - r20, S24))
  else
  (some ((-1), S11)))
def f_X10_expiresOn (F : Nat) (S0 : St) (p0 : Nat) (p1 : Int32) (p2 : Int32) : Option ((Nat ⊕ Int32) × St) :=
  Option.bind (f_X10_needReference F S0 p0 p1 p2) fun z1 => lt z1.2 fun S2 =>
  sm z1.1 (fun x => some (.inl x, S2)) (fun r3 =>
  Option.bind (sr S2 905 p0) fun j9 =>
  Option.bind (f_X8_expiryOf F S2 j9 p1 p2) fun z10 => lt z10.1 fun r12 => lt z10.2 fun S11 =>
  some (.inr r12, S11))
def f_X8_liveInClass_L41 (F : Nat) (k8 : St → Nat → Int32 → Int32 → Int32 → Int32 → Option (Int32 × St)) (S0 : St) (v0 : Nat) (v1 : Int32) (v2 : Int32) (v4 : Int32) (v5 : Int32) : Option (Int32 × St) :=
  lt (v5 + 1) fun x1 =>
  k8 S0 v0 v1 v2 v4 x1
def f_X8_liveInClass_L8 (F : Nat) : Nat → St → Nat → Int32 → Int32 → Int32 → Int32 → Option (Int32 × St)
  | 0, _, _, _, _, _, _ => none
  | fu + 1, S0, v0, v1, v2, v4, v5 =>
    if (si S0 705 v0) ≤ v5 then
    (some (v4, S0))
    else
    (Option.bind (f_X8_stateOf F S0 v0 v5 v1) fun z4 => lt z4.1 fun r6 => lt z4.2 fun S5 =>
    if ¬ r6 = 0 then
    (f_X8_liveInClass_L41 F (fun a0 a1 a2 a3 a4 a5 => f_X8_liveInClass_L8 F fu a0 a1 a2 a3 a4 a5) S5 v0 v1 v2 v4 v5)
    else
    (Option.bind (f_X8_retentionOf F S5 v0 v5 v1) fun z9 => lt z9.1 fun r11 => lt z9.2 fun S10 =>
    if ¬ r11 = v2 then
    (f_X8_liveInClass_L41 F (fun a0 a1 a2 a3 a4 a5 => f_X8_liveInClass_L8 F fu a0 a1 a2 a3 a4 a5) S10 v0 v1 v2 v4 v5)
    else
    (lt (v4 + 1) fun x14 =>
    f_X8_liveInClass_L41 F (fun a0 a1 a2 a3 a4 a5 => f_X8_liveInClass_L8 F fu a0 a1 a2 a3 a4 a5) S10 v0 v1 v2 x14 v5)))
def f_X8_liveInClass (F : Nat) (S0 : St) (p0 : Nat) (p1 : Int32) (p2 : Int32) (p3 : Int32) : Option (Int32 × St) :=
  lt (p3 + 1) fun x27 =>
  f_X8_liveInClass_L8 F F S0 p0 p1 p2 0 x27
def f_X8_classKeeps (F : Nat) (S0 : St) (p0 : Nat) (p1 : Int32) (p2 : Int32) : Option (Int32 × St) :=
  Option.bind (f_X8_retentionOf F S0 p0 p1 p2) fun z1 => lt z1.1 fun r3 => lt z1.2 fun S2 =>
  Option.bind (f_X8_stateOf F S2 p0 p1 p2) fun z5 => lt z5.1 fun r7 => lt z5.2 fun S6 =>
  if ¬ r7 = 0 then
  (some (0, S6))
  else
  (Option.bind (f_X8_liveInClass F S6 p0 p2 r3 p1) fun z10 => lt z10.1 fun r12 => lt z10.2 fun S11 =>
  Option.bind (sr S11 700 p0) fun j14 =>
  Option.bind (sr S11 604 j14) fun j15 =>
  Option.bind (f_X10_at F S11 j15 r3) fun z16 => lt z16.1 fun r18 => lt z16.2 fun S17 =>
  if r18 ≤ r12 then
  (some (0, S17))
  else
  (some (1, S17)))
def f_X10_isKept (F : Nat) (S0 : St) (p0 : Nat) (p1 : Int32) (p2 : Int32) : Option ((Nat ⊕ Int32) × St) :=
  Option.bind (f_X10_needReference F S0 p0 p1 p2) fun z1 => lt z1.2 fun S2 =>
  sm z1.1 (fun x => some (.inl x, S2)) (fun r3 =>
  Option.bind (sr S2 905 p0) fun j9 =>
  Option.bind (f_X8_classKeeps F S2 j9 p1 p2) fun z10 => lt z10.1 fun r12 => lt z10.2 fun S11 =>
  ck (r12 = 0 ∨ r12 = 1) <| some (.inr r12, S11))
def f_X7_holdsOnUser_L33 (F : Nat) (k4 : St → Nat → Int32 → Int32 → Int32 → Option (Int32 × St)) (S0 : St) (v0 : Nat) (v1 : Int32) (v2 : Int32) (v3 : Int32) : Option (Int32 × St) :=
  lt (v3 + 1) fun x1 =>
  k4 S0 v0 v1 v2 x1
def f_X7_holdsOnUser_L4 (F : Nat) : Nat → St → Nat → Int32 → Int32 → Int32 → Option (Int32 × St)
  | 0, _, _, _, _, _ => none
  | fu + 1, S0, v0, v1, v2, v3 =>
    Option.bind (sr S0 611 v0) fun j3 =>
    if (si S0 401 j3) ≤ v3 then
    (some (v2, S0))
    else
    (Option.bind (sr S0 612 v0) fun j5 =>
    Option.bind (f_X10_at F S0 j5 v3) fun z6 => lt z6.1 fun r8 => lt z6.2 fun S7 =>
    if ¬ r8 = v1 then
    (f_X7_holdsOnUser_L33 F (fun a0 a1 a2 a3 a4 => f_X7_holdsOnUser_L4 F fu a0 a1 a2 a3 a4) S7 v0 v1 v2 v3)
    else
    (lt (v2 ||| (1 <<< (v3 &&& 31))) fun x11 =>
    f_X7_holdsOnUser_L33 F (fun a0 a1 a2 a3 a4 => f_X7_holdsOnUser_L4 F fu a0 a1 a2 a3 a4) S7 v0 v1 x11 v3))
def f_X7_holdsOnUser (F : Nat) (S0 : St) (p0 : Nat) (p1 : Int32) : Option (Int32 × St) :=
  f_X7_holdsOnUser_L4 F F S0 p0 p1 0 0
def f_X8_holdsCovering (F : Nat) (S0 : St) (p0 : Nat) (p1 : Int32) (p2 : Int32) : Option (Int32 × St) :=
  Option.bind (f_X8_messageAt F S0 p0 p1) fun z1 => lt z1.1 fun r3 => lt z1.2 fun S2 =>
  Option.bind r3 fun j5 =>
  Option.bind (sr S2 700 p0) fun j6 =>
  Option.bind (f_X7_holdsOnUser F S2 j6 p2) fun z7 => lt z7.1 fun r9 => lt z7.2 fun S8 =>
  some (((si S0 703 p0) &&& (si S2 304 j5)) &&& r9, S8)
def f_X10_holdsOn (F : Nat) (S0 : St) (p0 : Nat) (p1 : Int32) (p2 : Int32) : Option ((Nat ⊕ Int32) × St) :=
  Option.bind (f_X10_needReference F S0 p0 p1 p2) fun z1 => lt z1.2 fun S2 =>
  sm z1.1 (fun x => some (.inl x, S2)) (fun r3 =>
  Option.bind (sr S2 905 p0) fun j9 =>
  Option.bind (f_X8_holdsCovering F S2 j9 p1 p2) fun z10 => lt z10.1 fun r12 => lt z10.2 fun S11 =>
  some (.inr r12, S11))
def f_X10_storedParts (F : Nat) (S0 : St) (p0 : Nat) : Option (Int32 × St) :=
  Option.bind (sr S0 905 p0) fun j1 =>
  Option.bind (sr S0 710 j1) fun j2 =>
  some (si S0 801 j2, S0)
def f_X9_storedAt_L30 (F : Nat) (k4 : St → Nat → Int32 → Int32 → Int32 → Option (Int32 × St)) (S0 : St) (v0 : Nat) (v1 : Int32) (v2 : Int32) (v3 : Int32) : Option (Int32 × St) :=
  lt (v3 + 1) fun x1 =>
  k4 S0 v0 v1 v2 x1
def f_X9_storedAt_L4 (F : Nat) : Nat → St → Nat → Int32 → Int32 → Int32 → Option (Int32 × St)
  | 0, _, _, _, _, _ => none
  | fu + 1, S0, v0, v1, v2, v3 =>
    if (si S0 800 v0) ≤ v3 then
    (some ((-1), S0))
    else
    (Option.bind (f_X9_isStored F S0 v0 v3) fun z4 => lt z4.1 fun r6 => lt z4.2 fun S5 =>
    if r6 = 0 then
    (f_X9_storedAt_L30 F (fun a0 a1 a2 a3 a4 => f_X9_storedAt_L4 F fu a0 a1 a2 a3 a4) S5 v0 v1 v2 v3)
    else
    (if ¬ v2 = v1 then
    (lt (v2 + 1) fun x10 =>
    f_X9_storedAt_L30 F (fun a0 a1 a2 a3 a4 => f_X9_storedAt_L4 F fu a0 a1 a2 a3 a4) S5 v0 v1 x10 v3)
    else
    (some (v3, S5))))
def f_X9_storedAt (F : Nat) (S0 : St) (p0 : Nat) (p1 : Int32) : Option (Int32 × St) :=
  f_X9_storedAt_L4 F F S0 p0 p1 0 0
def f_X10_storedPart_L18 (F : Nat) (S0 : St) : Option ((Nat ⊕ Int32) × St) :=
  some (.inl 4, S0)
def f_X10_storedPart (F : Nat) (S0 : St) (p0 : Nat) (p1 : Int32) : Option ((Nat ⊕ Int32) × St) :=
  if p1 < 0 then
  (f_X10_storedPart_L18 F S0)
  else
  (Option.bind (sr S0 905 p0) fun j2 =>
  Option.bind (sr S0 710 j2) fun j3 =>
  if p1 < (si S0 801 j3) then
  (Option.bind (sr S0 905 p0) fun j5 =>
  Option.bind (sr S0 710 j5) fun j6 =>
  Option.bind (f_X9_storedAt F S0 j6 p1) fun z7 => lt z7.1 fun r9 => lt z7.2 fun S8 =>
  some (.inr r9, S8))
  else
  (f_X10_storedPart_L18 F S0))
def f_X10_needPart (F : Nat) (S0 : St) (p0 : Nat) (p1 : Int32) : Option ((Nat ⊕ Unit) × St) :=
  Option.bind (sr S0 905 p0) fun j1 =>
  Option.bind (sr S0 710 j1) fun j2 =>
  Option.bind (f_X9_isStored F S0 j2 p1) fun z3 => lt z3.1 fun r5 => lt z3.2 fun S4 =>
  if ¬ r5 = 0 then
  (some (.inr (), S4))
  else
  (some (.inl 4, S4))
def f_X10_part (F : Nat) (S0 : St) (p0 : Nat) (p1 : Int32) (p2 : Int32) : Option ((Nat ⊕ Int32) × St) :=
  Option.bind (f_X10_needPart F S0 p0 p1) fun z1 => lt z1.2 fun S2 =>
  sm z1.1 (fun x => some (.inl x, S2)) (fun r3 =>
  Option.bind (f_X10_needWhat F S2 p2 ((3 : Int32))) fun z9 => lt z9.2 fun S10 =>
  sm z9.1 (fun x => some (.inl x, S10)) (fun r11 =>
  if p2 = 0 then
  (Option.bind (sr S10 905 p0) fun j18 =>
  Option.bind (sr S10 710 j18) fun j19 =>
  Option.bind (f_X9_bytesOf F S10 j19 p1) fun z20 => lt z20.1 fun r22 => lt z20.2 fun S21 =>
  Option.bind r22 fun j24 =>
  some (.inr (si S21 1 j24), S21))
  else
  (if p2 = 1 then
  (Option.bind (sr S10 905 p0) fun j26 =>
  Option.bind (sr S10 710 j26) fun j27 =>
  Option.bind (sr S10 805 j27) fun j28 =>
  Option.bind (f_X10_at F S10 j28 p1) fun z29 => lt z29.1 fun r31 => lt z29.2 fun S30 =>
  some (.inr r31, S30))
  else
  (if p2 = 2 then
  (Option.bind (sr S10 905 p0) fun j34 =>
  Option.bind (sr S10 710 j34) fun j35 =>
  Option.bind (sr S10 806 j35) fun j36 =>
  Option.bind (f_X10_at F S10 j36 p1) fun z37 => lt z37.1 fun r39 => lt z37.2 fun S38 =>
  some (.inr r39, S38))
  else
  (Option.bind (sr S10 905 p0) fun j41 =>
  Option.bind (sr S10 710 j41) fun j42 =>
  Option.bind (sr S10 804 j42) fun j43 =>
  Option.bind (f_X10_at F S10 j43 p1) fun z44 => lt z44.1 fun r46 => lt z44.2 fun S45 =>
  some (.inr r46, S45))))))
def f_X10_partByte_L29 (F : Nat) (S0 : St) : Option ((Nat ⊕ Int32) × St) :=
  some (.inl 3, S0)
def f_X10_partByte (F : Nat) (S0 : St) (p0 : Nat) (p1 : Int32) (p2 : Int32) : Option ((Nat ⊕ Int32) × St) :=
  Option.bind (f_X10_needPart F S0 p0 p1) fun z1 => lt z1.2 fun S2 =>
  sm z1.1 (fun x => some (.inl x, S2)) (fun r3 =>
  Option.bind (sr S2 905 p0) fun j9 =>
  Option.bind (sr S2 710 j9) fun j10 =>
  Option.bind (f_X9_bytesOf F S2 j10 p1) fun z11 => lt z11.1 fun r13 => lt z11.2 fun S12 =>
  Option.bind r13 fun j15 =>
  if p2 < 0 then
  (f_X10_partByte_L29 F S12)
  else
  (if p2 < (si S12 1 j15) then
  (Option.bind (f_X0_byteAt F S12 j15 p2) fun z18 => lt z18.1 fun r20 => lt z18.2 fun S19 =>
  some (.inr r20, S19))
  else
  (f_X10_partByte_L29 F S12)))
def f_X0_hash_L6 (F : Nat) : Nat → St → Nat → Int64 → Int32 → Option (Int64 × St)
  | 0, _, _, _, _ => none
  | fu + 1, S0, v0, v1, v3 =>
    if (si S0 1 v0) ≤ v3 then
    (some (v1, S0))
    else
    (Option.bind (f_X0_byteAt F S0 v0 v3) fun z2 => lt z2.1 fun r4 => lt z2.2 fun S3 =>
    lt ((v1 ^^^ r4.toInt64) * ((1099511628211))) fun x6 =>
    lt (v3 + 1) fun x7 =>
    (fun a0 a1 a2 a3 => f_X0_hash_L6 F fu a0 a1 a2 a3) S3 v0 x6 x7)
def f_X0_hash (F : Nat) (S0 : St) (p0 : Nat) : Option (Int64 × St) :=
  lt ((-3750763034362895579)) fun x15 =>
  f_X0_hash_L6 F F S0 p0 x15 0
def f_X10_digest (F : Nat) (S0 : St) (p0 : Nat) (p1 : Int32) : Option ((Nat ⊕ Int64) × St) :=
  Option.bind (f_X10_needPart F S0 p0 p1) fun z1 => lt z1.2 fun S2 =>
  sm z1.1 (fun x => some (.inl x, S2)) (fun r3 =>
  Option.bind (sr S2 905 p0) fun j9 =>
  Option.bind (sr S2 710 j9) fun j10 =>
  Option.bind (f_X9_bytesOf F S2 j10 p1) fun z11 => lt z11.1 fun r13 => lt z11.2 fun S12 =>
  Option.bind r13 fun j15 =>
  Option.bind (f_X0_hash F S12 j15) fun z16 => lt z16.1 fun r18 => lt z16.2 fun S17 =>
  some (.inr r18, S17))
def f_X10_storedBytes (F : Nat) (S0 : St) (p0 : Nat) : Option (Int32 × St) :=
  Option.bind (sr S0 905 p0) fun j1 =>
  Option.bind (sr S0 710 j1) fun j2 =>
  Option.bind (f_X9_byteSum F S0 j2 ((0 : Int32))) fun z3 => lt z3.1 fun r5 => lt z3.2 fun S4 =>
  some (r5, S4)
def f_X10_deadBytes (F : Nat) (S0 : St) (p0 : Nat) : Option (Int32 × St) :=
  Option.bind (sr S0 905 p0) fun j1 =>
  Option.bind (sr S0 710 j1) fun j2 =>
  Option.bind (f_X9_byteSum F S0 j2 ((1 : Int32))) fun z3 => lt z3.1 fun r5 => lt z3.2 fun S4 =>
  some (r5, S4)
def f_X10_logicalBytes_L4 (F : Nat) : Nat → St → Nat → Int32 → Int32 → Option (Int32 × St)
  | 0, _, _, _, _ => none
  | fu + 1, S0, v0, v1, v2 =>
    Option.bind (sr S0 905 v0) fun j1 =>
    Option.bind (sr S0 700 j1) fun j2 =>
    Option.bind (sr S0 606 j2) fun j3 =>
    if (si S0 401 j3) ≤ v2 then
    (some (v1, S0))
    else
    (Option.bind (sr S0 905 v0) fun j5 =>
    Option.bind (f_X8_usageOf F S0 j5 v2) fun z6 => lt z6.1 fun r8 => lt z6.2 fun S7 =>
    lt (v1 + r8) fun x10 =>
    lt (v2 + 1) fun x11 =>
    (fun a0 a1 a2 a3 => f_X10_logicalBytes_L4 F fu a0 a1 a2 a3) S7 v0 x10 x11)
def f_X10_logicalBytes (F : Nat) (S0 : St) (p0 : Nat) : Option (Int32 × St) :=
  f_X10_logicalBytes_L4 F F S0 p0 0 0
def f_X9_mostKept_L50 (F : Nat) (k4 : St → Nat → Int32 → Int32 → Option (Int32 × St)) (S0 : St) (v0 : Nat) (v1 : Int32) (v2 : Int32) : Option (Int32 × St) :=
  lt (v2 + 1) fun x1 =>
  k4 S0 v0 v1 x1
def f_X9_mostKept_L45 (F : Nat) (k4 : St → Nat → Int32 → Int32 → Option (Int32 × St)) (S0 : St) (v0 : Nat) (v1 : Int32) (v2 : Int32) (s0 : Int32) (s1 : Int32) : Option (Int32 × St) :=
  if s1 ≤ s0 then
  (f_X9_mostKept_L50 F k4 S0 v0 v1 v2)
  else
  (f_X9_mostKept_L50 F k4 S0 v0 v2 v2)
def f_X9_mostKept_L4 (F : Nat) : Nat → St → Nat → Int32 → Int32 → Option (Int32 × St)
  | 0, _, _, _, _ => none
  | fu + 1, S0, v0, v1, v2 =>
    if (si S0 800 v0) ≤ v2 then
    (some (v1, S0))
    else
    (Option.bind (f_X9_isStored F S0 v0 v2) fun z6 => lt z6.1 fun r8 => lt z6.2 fun S7 =>
    if r8 = 0 then
    (f_X9_mostKept_L50 F (fun a0 a1 a2 a3 => f_X9_mostKept_L4 F fu a0 a1 a2 a3) S7 v0 v1 v2)
    else
    (Option.bind (sr S7 805 v0) fun j11 =>
    Option.bind (f_X10_at F S7 j11 v2) fun z12 => lt z12.1 fun r14 => lt z12.2 fun S13 =>
    if ¬ v1 = ((-1)) then
    (Option.bind (sr S13 805 v0) fun j17 =>
    Option.bind (f_X10_at F S13 j17 v1) fun z18 => lt z18.1 fun r20 => lt z18.2 fun S19 =>
    f_X9_mostKept_L45 F (fun a0 a1 a2 a3 => f_X9_mostKept_L4 F fu a0 a1 a2 a3) S19 v0 v1 v2 r20 r14)
    else
    (f_X9_mostKept_L45 F (fun a0 a1 a2 a3 => f_X9_mostKept_L4 F fu a0 a1 a2 a3) S13 v0 v1 v2 0 r14)))
def f_X9_mostKept (F : Nat) (S0 : St) (p0 : Nat) : Option (Int32 × St) :=
  lt ((-1)) fun x39 =>
  f_X9_mostKept_L4 F F S0 p0 x39 0
def f_X10_mostShared (F : Nat) (S0 : St) (p0 : Nat) : Option (Int32 × St) :=
  Option.bind (sr S0 905 p0) fun j1 =>
  Option.bind (sr S0 710 j1) fun j2 =>
  Option.bind (f_X9_mostKept F S0 j2) fun z3 => lt z3.1 fun r5 => lt z3.2 fun S4 =>
  some (r5, S4)
def f_X10_usage (F : Nat) (S0 : St) (p0 : Nat) (p1 : Int32) : Option ((Nat ⊕ Int32) × St) :=
  Option.bind (f_X10_needUser F S0 p0 p1) fun z1 => lt z1.2 fun S2 =>
  sm z1.1 (fun x => some (.inl x, S2)) (fun r3 =>
  Option.bind (sr S2 905 p0) fun j9 =>
  Option.bind (f_X8_usageOf F S2 j9 p1) fun z10 => lt z10.1 fun r12 => lt z10.2 fun S11 =>
  some (.inr r12, S11))
def f_X10_quota (F : Nat) (S0 : St) (p0 : Nat) (p1 : Int32) : Option ((Nat ⊕ Int32) × St) :=
  Option.bind (f_X10_needUser F S0 p0 p1) fun z1 => lt z1.2 fun S2 =>
  sm z1.1 (fun x => some (.inl x, S2)) (fun r3 =>
  Option.bind (sr S2 905 p0) fun j9 =>
  Option.bind (sr S2 704 j9) fun j10 =>
  Option.bind (f_X10_at F S2 j10 p1) fun z11 => lt z11.1 fun r13 => lt z11.2 fun S12 =>
  some (.inr r13, S12))
def f_J7_fill_53178_L5 (F : Nat) : Nat → St → Nat → Int32 → Int32 → Int32 → Option (St)
  | 0, _, _, _, _, _ => none
  | fu + 1, S0, v0, v1, v2, v3 =>
    if v3 ≤ v2 then
    (some S0)
    else
    (cki v2 (ln S0 v0) <|
    lt (uai S0 v0 (Int32.toNatClampNeg v2) v1) fun S3 =>
    lt (v2 + 1) fun x4 =>
    (fun a0 a1 a2 a3 a4 => f_J7_fill_53178_L5 F fu a0 a1 a2 a3 a4) S3 v0 v1 x4 v3)
def f_J7_fill_53178 (F : Nat) (S0 : St) (p0 : Nat) (p1 : Int32) : Option (St) :=
  lt (nI (ln S0 p0)) fun x9 =>
  f_J7_fill_53178_L5 F F S0 p0 p1 0 x9
def f_X8_gatherReaders_L41 (F : Nat) (k7 : St → Nat → Nat → Int32 → Option (St)) : Nat → St → Nat → Nat → Int32 → Int32 → Nat → Int32 → Int32 → Option (St)
  | 0, _, _, _, _, _, _, _, _ => none
  | fu + 1, S0, v0, v1, v2, v3, v4, v5, v6 =>
    if v5 ≤ v6 then
    (lt (v2 + 1) fun x2 =>
    k7 S0 v0 v1 x2)
    else
    (cki v6 (ln S0 v4) <|
    lt (ai S0 v4 (Int32.toNatClampNeg v6)) fun x4 =>
    Option.bind (f_X10_at F S0 v1 x4) fun z5 => lt z5.1 fun r7 => lt z5.2 fun S6 =>
    Option.bind (f_X10_put F S6 v1 x4 (r7 ||| v3)) fun S10 =>
    lt (v6 + 1) fun x13 =>
    (fun a0 a1 a2 a3 a4 a5 a6 a7 => f_X8_gatherReaders_L41 F k7 fu a0 a1 a2 a3 a4 a5 a6 a7) S10 v0 v1 v2 v3 v4 v5 x13)
def f_X8_gatherReaders_L7 (F : Nat) : Nat → St → Nat → Nat → Int32 → Option (St)
  | 0, _, _, _, _ => none
  | fu + 1, S0, v0, v1, v2 =>
    if (si S0 705 v0) ≤ v2 then
    (some S0)
    else
    (Option.bind (f_X8_usersIn F S0 v0 v2 ((0 : Int32)) ((0 : Int32))) fun z28 => lt z28.1 fun r30 => lt z28.2 fun S29 =>
    Option.bind (f_X8_messageAt F S29 v0 v2) fun z32 => lt z32.1 fun r34 => lt z32.2 fun S33 =>
    Option.bind r34 fun j36 =>
    Option.bind (sr S33 303 j36) fun j37 =>
    lt (nI (ln S33 j37)) fun x38 =>
    f_X8_gatherReaders_L41 F (fun a0 a1 a2 a3 => f_X8_gatherReaders_L7 F fu a0 a1 a2 a3) F S33 v0 v1 v2 r30 j37 x38 0)
def f_X8_gatherReaders (F : Nat) (S0 : St) (p0 : Nat) (p1 : Nat) : Option (St) :=
  Option.bind (f_J7_fill_53178 F S0 p1 ((0 : Int32))) fun S52 =>
  f_X8_gatherReaders_L7 F F S52 p0 p1 0
def f_J6_bitCount_0f7a4 (F : Nat) (S0 : St) (p0 : Int32) : Option (Int32 × St) :=
  lt (p0 - (((p0.toUInt32 >>> ((1 : Int32).toUInt32 &&& Int32.toUInt32 31)).toInt32) &&& 1431655765)) fun x1 =>
  lt ((x1 &&& 858993459) + (((x1.toUInt32 >>> ((2 : Int32).toUInt32 &&& Int32.toUInt32 31)).toInt32) &&& 858993459)) fun x2 =>
  lt ((x2 + ((x2.toUInt32 >>> ((4 : Int32).toUInt32 &&& Int32.toUInt32 31)).toInt32)) &&& 252645135) fun x3 =>
  lt (x3 + ((x3.toUInt32 >>> ((8 : Int32).toUInt32 &&& Int32.toUInt32 31)).toInt32)) fun x4 =>
  lt (x4 + ((x4.toUInt32 >>> ((16 : Int32).toUInt32 &&& Int32.toUInt32 31)).toInt32)) fun x5 =>
  some (x5 &&& 63, S0)
def f_X10_fairShare_L85 (F : Nat) (k21 : St → Nat → Int32 → UInt64 → Int32 → Option ((Nat ⊕ UInt64) × St)) (S0 : St) (v0 : Nat) (v1 : Int32) (v2 : UInt64) (v4 : Int32) : Option ((Nat ⊕ UInt64) × St) :=
  lt (v4 + 1) fun x1 =>
  k21 S0 v0 v1 v2 x1
def f_X10_fairShare_L21 (F : Nat) : Nat → St → Nat → Int32 → UInt64 → Int32 → Option ((Nat ⊕ UInt64) × St)
  | 0, _, _, _, _, _ => none
  | fu + 1, S0, v0, v1, v2, v4 =>
    Option.bind (sr S0 910 v0) fun j3 =>
    if (nI (ln S0 j3)) ≤ v4 then
    (some (.inr v2, S0))
    else
    (Option.bind (sr S0 910 v0) fun j5 =>
    cki v4 (ln S0 j5) <|
    Option.bind (f_J6_bitCount_0f7a4 F S0 (ai S0 j5 (Int32.toNatClampNeg v4))) fun z7 => lt z7.1 fun r9 => lt z7.2 fun S8 =>
    if r9 ≤ 0 then
    (f_X10_fairShare_L85 F (fun a0 a1 a2 a3 a4 => f_X10_fairShare_L21 F fu a0 a1 a2 a3 a4) S8 v0 v1 v2 v4)
    else
    (Option.bind (sr S8 910 v0) fun j12 =>
    cki v4 (ln S8 j12) <|
    Option.bind (f_X10_hasBit F S8 (ai S8 j12 (Int32.toNatClampNeg v4)) v1) fun z14 => lt z14.1 fun r16 => lt z14.2 fun S15 =>
    if r16 = 0 then
    (f_X10_fairShare_L85 F (fun a0 a1 a2 a3 a4 => f_X10_fairShare_L21 F fu a0 a1 a2 a3 a4) S15 v0 v1 v2 v4)
    else
    (Option.bind (sr S15 905 v0) fun j19 =>
    Option.bind (sr S15 710 j19) fun j20 =>
    Option.bind (f_X9_bytesOf F S15 j20 v4) fun z21 => lt z21.1 fun r23 => lt z21.2 fun S22 =>
    Option.bind r23 fun j25 =>
    ckn (FP.ddiv (FP.i2d (si S22 1 j25)) (FP.i2d r9)) <|
    ckn (FP.dadd v2 (FP.ddiv (FP.i2d (si S22 1 j25)) (FP.i2d r9))) <|
    lt (FP.dadd v2 (FP.ddiv (FP.i2d (si S22 1 j25)) (FP.i2d r9))) fun x28 =>
    f_X10_fairShare_L85 F (fun a0 a1 a2 a3 a4 => f_X10_fairShare_L21 F fu a0 a1 a2 a3 a4) S22 v0 v1 x28 v4)))
def f_X10_fairShare (F : Nat) (S0 : St) (p0 : Nat) (p1 : Int32) : Option ((Nat ⊕ UInt64) × St) :=
  Option.bind (f_X10_needUser F S0 p0 p1) fun z55 => lt z55.2 fun S56 =>
  sm z55.1 (fun x => some (.inl x, S56)) (fun r57 =>
  Option.bind (sr S56 905 p0) fun j63 =>
  Option.bind (sr S56 910 p0) fun j64 =>
  Option.bind (f_X8_gatherReaders F S56 j63 j64) fun S66 =>
  lt FP.dconst0 fun x69 =>
  f_X10_fairShare_L21 F F S66 p0 p1 x69 0)
def f_X10_inClass (F : Nat) (S0 : St) (p0 : Nat) (p1 : Int32) (p2 : Int32) : Option ((Nat ⊕ Int32) × St) :=
  Option.bind (f_X10_needUser F S0 p0 p1) fun z1 => lt z1.2 fun S2 =>
  sm z1.1 (fun x => some (.inl x, S2)) (fun r3 =>
  Option.bind (f_X10_needClass F S2 p0 p2) fun z9 => lt z9.2 fun S10 =>
  sm z9.1 (fun x => some (.inl x, S10)) (fun r11 =>
  Option.bind (sr S10 905 p0) fun j17 =>
  Option.bind (f_X8_liveInClass F S10 j17 p1 p2 (((-1) : Int32))) fun z18 => lt z18.1 fun r20 => lt z18.2 fun S19 =>
  some (.inr r20, S19)))
def f_X8_liveWithWord_L38 (F : Nat) (k6 : St → Nat → Int32 → Int64 → Int32 → Int32 → Option (Int32 × St)) (S0 : St) (v0 : Nat) (v1 : Int32) (v2 : Int64) (v4 : Int32) (v5 : Int32) : Option (Int32 × St) :=
  lt (v5 + 1) fun x1 =>
  k6 S0 v0 v1 v2 v4 x1
def f_X8_liveWithWord_L6 (F : Nat) : Nat → St → Nat → Int32 → Int64 → Int32 → Int32 → Option (Int32 × St)
  | 0, _, _, _, _, _, _ => none
  | fu + 1, S0, v0, v1, v2, v4, v5 =>
    if (si S0 705 v0) ≤ v5 then
    (some (v4, S0))
    else
    (Option.bind (f_X8_stateOf F S0 v0 v5 v1) fun z4 => lt z4.1 fun r6 => lt z4.2 fun S5 =>
    if ¬ r6 = 0 then
    (f_X8_liveWithWord_L38 F (fun a0 a1 a2 a3 a4 a5 => f_X8_liveWithWord_L6 F fu a0 a1 a2 a3 a4 a5) S5 v0 v1 v2 v4 v5)
    else
    (Option.bind (f_X8_hasWord F S5 v0 v5 v2) fun z9 => lt z9.1 fun r11 => lt z9.2 fun S10 =>
    if r11 = 0 then
    (f_X8_liveWithWord_L38 F (fun a0 a1 a2 a3 a4 a5 => f_X8_liveWithWord_L6 F fu a0 a1 a2 a3 a4 a5) S10 v0 v1 v2 v4 v5)
    else
    (lt (v4 + 1) fun x14 =>
    f_X8_liveWithWord_L38 F (fun a0 a1 a2 a3 a4 a5 => f_X8_liveWithWord_L6 F fu a0 a1 a2 a3 a4 a5) S10 v0 v1 v2 x14 v5)))
def f_X8_liveWithWord (F : Nat) (S0 : St) (p0 : Nat) (p1 : Int32) (p2 : Int64) : Option (Int32 × St) :=
  f_X8_liveWithWord_L6 F F S0 p0 p1 p2 0 0
def f_X10_matches (F : Nat) (S0 : St) (p0 : Nat) (p1 : Int32) : Option ((Nat ⊕ Int32) × St) :=
  Option.bind (f_X10_needUser F S0 p0 p1) fun z1 => lt z1.2 fun S2 =>
  sm z1.1 (fun x => some (.inl x, S2)) (fun r3 =>
  Option.bind (sr S2 900 p0) fun j9 =>
  Option.bind (f_X0_wholeWord F S2 j9) fun z10 => lt z10.1 fun r12 => lt z10.2 fun S11 =>
  if ¬ (lg_cmp r12 0) = 0 then
  (Option.bind (sr S11 900 p0) fun j15 =>
  Option.bind (f_X0_cutTo F S11 j15 ((0 : Int32))) fun S17 =>
  Option.bind (sr S17 905 p0) fun j20 =>
  Option.bind (f_X8_liveWithWord F S17 j20 p1 r12) fun z21 => lt z21.1 fun r23 => lt z21.2 fun S22 =>
  some (.inr r23, S22))
  else
  (some (.inl 2, S11)))
def f_X10_commonBytes_L82 (F : Nat) (k26 : St → Nat → Int32 → Int32 → Int32 → Int32 → Option ((Nat ⊕ Int32) × St)) (S0 : St) (v0 : Nat) (v1 : Int32) (v2 : Int32) (v3 : Int32) (v4 : Int32) : Option ((Nat ⊕ Int32) × St) :=
  lt (v4 + 1) fun x1 =>
  k26 S0 v0 v1 v2 v3 x1
def f_X10_commonBytes_L26 (F : Nat) : Nat → St → Nat → Int32 → Int32 → Int32 → Int32 → Option ((Nat ⊕ Int32) × St)
  | 0, _, _, _, _, _, _ => none
  | fu + 1, S0, v0, v1, v2, v3, v4 =>
    Option.bind (sr S0 910 v0) fun j3 =>
    if (nI (ln S0 j3)) ≤ v4 then
    (some (.inr v3, S0))
    else
    (Option.bind (sr S0 910 v0) fun j5 =>
    cki v4 (ln S0 j5) <|
    Option.bind (f_X10_hasBit F S0 (ai S0 j5 (Int32.toNatClampNeg v4)) v1) fun z7 => lt z7.1 fun r9 => lt z7.2 fun S8 =>
    if r9 = 0 then
    (f_X10_commonBytes_L82 F (fun a0 a1 a2 a3 a4 a5 => f_X10_commonBytes_L26 F fu a0 a1 a2 a3 a4 a5) S8 v0 v1 v2 v3 v4)
    else
    (Option.bind (sr S8 910 v0) fun j12 =>
    cki v4 (ln S8 j12) <|
    Option.bind (f_X10_hasBit F S8 (ai S8 j12 (Int32.toNatClampNeg v4)) v2) fun z14 => lt z14.1 fun r16 => lt z14.2 fun S15 =>
    if r16 = 0 then
    (f_X10_commonBytes_L82 F (fun a0 a1 a2 a3 a4 a5 => f_X10_commonBytes_L26 F fu a0 a1 a2 a3 a4 a5) S15 v0 v1 v2 v3 v4)
    else
    (Option.bind (sr S15 905 v0) fun j19 =>
    Option.bind (sr S15 710 j19) fun j20 =>
    Option.bind (f_X9_bytesOf F S15 j20 v4) fun z21 => lt z21.1 fun r23 => lt z21.2 fun S22 =>
    Option.bind r23 fun j25 =>
    lt (v3 + (si S22 1 j25)) fun x26 =>
    f_X10_commonBytes_L82 F (fun a0 a1 a2 a3 a4 a5 => f_X10_commonBytes_L26 F fu a0 a1 a2 a3 a4 a5) S22 v0 v1 v2 x26 v4)))
def f_X10_commonBytes (F : Nat) (S0 : St) (p0 : Nat) (p1 : Int32) (p2 : Int32) : Option ((Nat ⊕ Int32) × St) :=
  Option.bind (f_X10_needUser F S0 p0 p1) fun z51 => lt z51.2 fun S52 =>
  sm z51.1 (fun x => some (.inl x, S52)) (fun r53 =>
  Option.bind (f_X10_needUser F S52 p0 p2) fun z59 => lt z59.2 fun S60 =>
  sm z59.1 (fun x => some (.inl x, S60)) (fun r61 =>
  Option.bind (sr S60 905 p0) fun j67 =>
  Option.bind (sr S60 910 p0) fun j68 =>
  Option.bind (f_X8_gatherReaders F S60 j67 j68) fun S70 =>
  f_X10_commonBytes_L26 F F S70 p0 p1 p2 0 0))
def f_X10_needLive (F : Nat) (S0 : St) (p0 : Nat) (p1 : Int32) (p2 : Int32) : Option ((Nat ⊕ Unit) × St) :=
  Option.bind (sr S0 905 p0) fun j1 =>
  Option.bind (f_X8_stateOf F S0 j1 p1 p2) fun z2 => lt z2.1 fun r4 => lt z2.2 fun S3 =>
  if r4 = 0 then
  (some (.inr (), S3))
  else
  (some (.inl 1, S3))
def f_X8_enterClass (F : Nat) (S0 : St) (p0 : Nat) (p1 : Int32) (p2 : Int32) (p3 : Int32) : Option (St) :=
  Option.bind (sr S0 708 p0) fun j1 =>
  Option.bind (f_X10_put F S0 j1 ((p1 * 10) + p2) p3) fun S3 =>
  Option.bind (sr S3 709 p0) fun j6 =>
  Option.bind (f_X10_put F S3 j6 ((p1 * 10) + p2) (si S3 701 p0)) fun S8 =>
  some S8
def f_X10_file_L60 (F : Nat) (S0 : St) (v0 : Nat) (v1 : Int32) (v2 : Int32) (v3 : Int32) (v4 : Int32) : Option ((Nat ⊕ Int32) × St) :=
  Option.bind (f_X10_remember F S0 v0) fun S2 =>
  Option.bind (sr S2 905 v0) fun j5 =>
  Option.bind (f_X8_enterClass F S2 j5 v1 v2 v3) fun S7 =>
  some (.inr v4, S7)
def f_X10_file (F : Nat) (S0 : St) (p0 : Nat) (p1 : Int32) (p2 : Int32) (p3 : Int32) : Option ((Nat ⊕ Int32) × St) :=
  Option.bind (f_X10_needClass F S0 p0 p3) fun z19 => lt z19.2 fun S20 =>
  sm z19.1 (fun x => some (.inl x, S20)) (fun r21 =>
  Option.bind (f_X10_needReference F S20 p0 p1 p2) fun z27 => lt z27.2 fun S28 =>
  sm z27.1 (fun x => some (.inl x, S28)) (fun r29 =>
  Option.bind (f_X10_needLive F S28 p0 p1 p2) fun z35 => lt z35.2 fun S36 =>
  sm z35.1 (fun x => some (.inl x, S36)) (fun r37 =>
  Option.bind (sr S36 905 p0) fun j43 =>
  Option.bind (f_X8_retentionOf F S36 j43 p1 p2) fun z44 => lt z44.1 fun r46 => lt z44.2 fun S45 =>
  if ¬ r46 = p3 then
  (f_X10_file_L60 F S45 p0 p1 p2 p3 r46)
  else
  (Option.bind (sr S45 905 p0) fun j49 =>
  Option.bind (sr S45 709 j49) fun j50 =>
  Option.bind (f_X10_at F S45 j50 ((p1 * 10) + p2)) fun z51 => lt z51.1 fun r53 => lt z51.2 fun S52 =>
  Option.bind (sr S52 905 p0) fun j55 =>
  if r53 = (si S52 701 j55) then
  (some (.inr r46, S52))
  else
  (f_X10_file_L60 F S52 p0 p1 p2 p3 r46)))))
def f_X4_partAbove_L47 (F : Nat) (k14 : St → Int32 → Int32 → Nat → Int32 → Int32 → Option (Int32 × St)) (S0 : St) (v1 : Int32) (v2 : Int32) (v3 : Nat) (v4 : Int32) (v5 : Int32) : Option (Int32 × St) :=
  lt (v5 + 1) fun x1 =>
  k14 S0 v1 v2 v3 v4 x1
def f_X4_partAbove_L44 (F : Nat) (k14 : St → Int32 → Int32 → Nat → Int32 → Int32 → Option (Int32 × St)) (S0 : St) (v1 : Int32) (v3 : Nat) (v4 : Int32) (v5 : Int32) (v6 : Int32) : Option (Int32 × St) :=
  f_X4_partAbove_L47 F k14 S0 v1 v6 v3 v4 v5
def f_X4_partAbove_L14 (F : Nat) : Nat → St → Int32 → Int32 → Nat → Int32 → Int32 → Option (Int32 × St)
  | 0, _, _, _, _, _, _ => none
  | fu + 1, S0, v1, v2, v3, v4, v5 =>
    if v4 ≤ v5 then
    (some (v2, S0))
    else
    (cki v5 (ln S0 v3) <|
    lt (ai S0 v3 (Int32.toNatClampNeg v5)) fun x5 =>
    if x5 ≤ v1 then
    (f_X4_partAbove_L47 F (fun a0 a1 a2 a3 a4 a5 => f_X4_partAbove_L14 F fu a0 a1 a2 a3 a4 a5) S0 v1 v2 v3 v4 v5)
    else
    (if v2 = ((-1)) then
    (f_X4_partAbove_L44 F (fun a0 a1 a2 a3 a4 a5 => f_X4_partAbove_L14 F fu a0 a1 a2 a3 a4 a5) S0 v1 v3 v4 v5 x5)
    else
    (if v2 ≤ x5 then
    (f_X4_partAbove_L47 F (fun a0 a1 a2 a3 a4 a5 => f_X4_partAbove_L14 F fu a0 a1 a2 a3 a4 a5) S0 v1 v2 v3 v4 v5)
    else
    (f_X4_partAbove_L44 F (fun a0 a1 a2 a3 a4 a5 => f_X4_partAbove_L14 F fu a0 a1 a2 a3 a4 a5) S0 v1 v3 v4 v5 x5))))
def f_X4_partAbove (F : Nat) (S0 : St) (p0 : Nat) (p1 : Int32) : Option (Int32 × St) :=
  lt ((-1)) fun x15 =>
  Option.bind (sr S0 303 p0) fun j16 =>
  lt (nI (ln S0 j16)) fun x17 =>
  f_X4_partAbove_L14 F F S0 p1 x15 j16 x17 0
def f_X9_dropKeeper (F : Nat) (S0 : St) (p0 : Nat) (p1 : Int32) (p2 : Int32) : Option (Int32 × St) :=
  Option.bind (sr S0 805 p0) fun j1 =>
  Option.bind (sr S0 805 p0) fun j2 =>
  Option.bind (f_X10_at F S0 j2 p1) fun z3 => lt z3.1 fun r5 => lt z3.2 fun S4 =>
  Option.bind (f_X10_put F S4 j1 p1 (r5 - 1)) fun S8 =>
  Option.bind (sr S8 805 p0) fun j11 =>
  Option.bind (f_X10_at F S8 j11 p1) fun z12 => lt z12.1 fun r14 => lt z12.2 fun S13 =>
  if r14 ≤ 0 then
  (Option.bind (sr S13 806 p0) fun j17 =>
  Option.bind (f_X10_put F S13 j17 p1 p2) fun S19 =>
  lt (ui S19 802 p0 ((si S19 802 p0) + 1)) fun S22 =>
  some (1, S22))
  else
  (some (0, S13))
def f_X8_dropParts_L47 (F : Nat) (k8 : St → Nat → Nat → Int32 → Int32 → Option (St)) (S0 : St) (v0 : Nat) (v1 : Nat) (v2 : Int32) (v3 : Int32) : Option (St) :=
  Option.bind (f_X4_partAbove F S0 v1 v2) fun z1 => lt z1.1 fun r3 => lt z1.2 fun S2 =>
  lt (v3 + 1) fun x5 =>
  k8 S2 v0 v1 r3 x5
def f_X8_dropParts_L8 (F : Nat) : Nat → St → Nat → Nat → Int32 → Int32 → Option (St)
  | 0, _, _, _, _, _ => none
  | fu + 1, S0, v0, v1, v2, v3 =>
    if 4 ≤ v3 then
    (some S0)
    else
    (if v2 = ((-1)) then
    (some S0)
    else
    (Option.bind (sr S0 710 v0) fun j13 =>
    Option.bind (f_X9_dropKeeper F S0 j13 v2 (si S0 701 v0)) fun z14 => lt z14.1 fun r16 => lt z14.2 fun S15 =>
    if r16 = 0 then
    (f_X8_dropParts_L47 F (fun a0 a1 a2 a3 a4 => f_X8_dropParts_L8 F fu a0 a1 a2 a3 a4) S15 v0 v1 v2 v3)
    else
    (Option.bind (sr S15 711 v0) fun j19 =>
    Option.bind (f_X2_note F S15 j19 (si S15 701 v0) ((6 : Int32)) v2) fun S21 =>
    f_X8_dropParts_L47 F (fun a0 a1 a2 a3 a4 => f_X8_dropParts_L8 F fu a0 a1 a2 a3 a4) S21 v0 v1 v2 v3)))
def f_X8_dropParts (F : Nat) (S0 : St) (p0 : Nat) (p1 : Nat) : Option (St) :=
  Option.bind (f_X4_partAbove F S0 p1 (((-1) : Int32))) fun z37 => lt z37.1 fun r39 => lt z37.2 fun S38 =>
  f_X8_dropParts_L8 F F S38 p0 p1 r39 0
def f_X8_endReference_L57 (F : Nat) (S0 : St) (v0 : Nat) (v1 : Int32) (v4 : Int32) (s0 : Int32) (s1 : Int32) (s2 : Nat) : Option (St) :=
  Option.bind (f_X2_note F S0 s2 s1 s0 v1) fun S2 =>
  if ¬ v4 = 0 then
  (some S2)
  else
  (Option.bind (f_X8_keepsMessage F S2 v0 v1) fun z6 => lt z6.1 fun r8 => lt z6.2 fun S7 =>
  if ¬ r8 = 0 then
  (some S7)
  else
  (Option.bind (f_X8_messageAt F S7 v0 v1) fun z11 => lt z11.1 fun r13 => lt z11.2 fun S12 =>
  Option.bind r13 fun j15 =>
  Option.bind (f_X8_dropParts F S12 v0 j15) fun S17 =>
  some S17))
def f_X8_endReference_L36 (F : Nat) (S0 : St) (v0 : Nat) (v1 : Int32) (v4 : Int32) (s0 : Int32) (s1 : Int32) (s2 : Nat) : Option (St) :=
  Option.bind (f_X10_put F S0 s2 s1 s0) fun S40 =>
  Option.bind (sr S40 711 v0) fun j43 =>
  if v4 = 0 then
  (f_X8_endReference_L57 F S40 v0 v1 v4 4 (si S40 701 v0) j43)
  else
  (f_X8_endReference_L57 F S40 v0 v1 v4 5 (si S40 701 v0) j43)
def f_X8_endReference_L14 (F : Nat) (S0 : St) (v0 : Nat) (v1 : Int32) (v2 : Int32) (v3 : Int32) (s0 : Int32) : Option (St) :=
  Option.bind (sr S0 707 v0) fun j51 =>
  if s0 = 0 then
  (f_X8_endReference_L36 F S0 v0 v1 s0 3 ((v1 * 10) + v2) j51)
  else
  (f_X8_endReference_L36 F S0 v0 v1 s0 v3 ((v1 * 10) + v2) j51)
def f_X8_endReference (F : Nat) (S0 : St) (p0 : Nat) (p1 : Int32) (p2 : Int32) (p3 : Int32) : Option (St) :=
  Option.bind (f_X8_holdsCovering F S0 p0 p1 p2) fun z55 => lt z55.1 fun r57 => lt z55.2 fun S56 =>
  if r57 = 0 then
  (f_X8_endReference_L14 F S56 p0 p1 p2 p3 0)
  else
  (f_X8_endReference_L14 F S56 p0 p1 p2 p3 1)
def f_X10_delete (F : Nat) (S0 : St) (p0 : Nat) (p1 : Int32) (p2 : Int32) : Option ((Nat ⊕ Int32) × St) :=
  Option.bind (f_X10_needReference F S0 p0 p1 p2) fun z1 => lt z1.2 fun S2 =>
  sm z1.1 (fun x => some (.inl x, S2)) (fun r3 =>
  Option.bind (f_X10_needLive F S2 p0 p1 p2) fun z9 => lt z9.2 fun S10 =>
  sm z9.1 (fun x => some (.inl x, S10)) (fun r11 =>
  Option.bind (f_X10_remember F S10 p0) fun S18 =>
  Option.bind (sr S18 905 p0) fun j21 =>
  Option.bind (f_X8_endReference F S18 j21 p1 p2 ((1 : Int32))) fun S23 =>
  Option.bind (sr S23 905 p0) fun j26 =>
  Option.bind (f_X8_stateOf F S23 j26 p1 p2) fun z27 => lt z27.1 fun r29 => lt z27.2 fun S28 =>
  some (.inr r29, S28)))
def f_X8_isHidden (F : Nat) (S0 : St) (p0 : Nat) (p1 : Int32) (p2 : Int32) : Option (Int32 × St) :=
  Option.bind (f_X8_stateOf F S0 p0 p1 p2) fun z1 => lt z1.1 fun r3 => lt z1.2 fun S2 =>
  if r3 = 1 then
  (some (1, S2))
  else
  (if ¬ r3 = 2 then
  (some (0, S2))
  else
  (some (1, S2)))
def f_X8_bringBack (F : Nat) (S0 : St) (p0 : Nat) (p1 : Int32) (p2 : Int32) : Option (St) :=
  Option.bind (sr S0 707 p0) fun j1 =>
  Option.bind (f_X10_put F S0 j1 ((p1 * 10) + p2) ((0 : Int32))) fun S3 =>
  Option.bind (sr S3 709 p0) fun j6 =>
  Option.bind (f_X10_put F S3 j6 ((p1 * 10) + p2) (si S3 701 p0)) fun S8 =>
  some S8
def f_X10_recover (F : Nat) (S0 : St) (p0 : Nat) (p1 : Int32) (p2 : Int32) : Option ((Nat ⊕ Int32) × St) :=
  Option.bind (f_X10_needReference F S0 p0 p1 p2) fun z1 => lt z1.2 fun S2 =>
  sm z1.1 (fun x => some (.inl x, S2)) (fun r3 =>
  Option.bind (sr S2 905 p0) fun j9 =>
  Option.bind (f_X8_isHidden F S2 j9 p1 p2) fun z10 => lt z10.1 fun r12 => lt z10.2 fun S11 =>
  if ¬ r12 = 0 then
  (Option.bind (f_X10_remember F S11 p0) fun S16 =>
  Option.bind (sr S16 905 p0) fun j19 =>
  Option.bind (f_X8_stateOf F S16 j19 p1 p2) fun z20 => lt z20.1 fun r22 => lt z20.2 fun S21 =>
  Option.bind (sr S21 905 p0) fun j24 =>
  Option.bind (f_X8_bringBack F S21 j24 p1 p2) fun S26 =>
  some (.inr r22, S26))
  else
  (some (.inl 1, S11)))
def f_X10_needHold (F : Nat) (S0 : St) (p0 : Nat) (p1 : Int32) : Option ((Nat ⊕ Unit) × St) :=
  Option.bind (sr S0 905 p0) fun j1 =>
  Option.bind (sr S0 700 j1) fun j2 =>
  Option.bind (sr S0 611 j2) fun j3 =>
  Option.bind (f_X5_has F S0 j3 p1) fun z4 => lt z4.1 fun r6 => lt z4.2 fun S5 =>
  if ¬ r6 = 0 then
  (some (.inr (), S5))
  else
  (some (.inl 4, S5))
def f_X10_isActive (F : Nat) (S0 : St) (p0 : Nat) (p1 : Int32) : Option ((Nat ⊕ Int32) × St) :=
  Option.bind (f_X10_needHold F S0 p0 p1) fun z1 => lt z1.2 fun S2 =>
  sm z1.1 (fun x => some (.inl x, S2)) (fun r3 =>
  Option.bind (sr S2 905 p0) fun j9 =>
  Option.bind (f_X10_hasBit F S2 (si S2 703 j9) p1) fun z10 => lt z10.1 fun r12 => lt z10.2 fun S11 =>
  ck (r12 = 0 ∨ r12 = 1) <| some (.inr r12, S11))
def f_X8_releaseHold_L71 (F : Nat) (k31 : St → Nat → Int32 → Int32 → Int32 → Option (Int32 × St)) (S0 : St) (v0 : Nat) (v2 : Int32) (v3 : Int32) (v4 : Int32) : Option (Int32 × St) :=
  lt (v4 + 1) fun x1 =>
  k31 S0 v0 v2 v3 x1
def f_X8_releaseHold_L31 (F : Nat) : Nat → St → Nat → Int32 → Int32 → Int32 → Option (Int32 × St)
  | 0, _, _, _, _, _ => none
  | fu + 1, S0, v0, v2, v3, v4 =>
    if (si S0 705 v0) ≤ v4 then
    (some (v3, S0))
    else
    (Option.bind (f_X8_isHidden F S0 v0 v4 v2) fun z4 => lt z4.1 fun r6 => lt z4.2 fun S5 =>
    if r6 = 0 then
    (f_X8_releaseHold_L71 F (fun a0 a1 a2 a3 a4 => f_X8_releaseHold_L31 F fu a0 a1 a2 a3 a4) S5 v0 v2 v3 v4)
    else
    (Option.bind (f_X8_holdsCovering F S5 v0 v4 v2) fun z9 => lt z9.1 fun r11 => lt z9.2 fun S10 =>
    if ¬ r11 = 0 then
    (f_X8_releaseHold_L71 F (fun a0 a1 a2 a3 a4 => f_X8_releaseHold_L31 F fu a0 a1 a2 a3 a4) S10 v0 v2 v3 v4)
    else
    (Option.bind (f_X8_endReference F S10 v0 v4 v2 ((3 : Int32))) fun S15 =>
    lt (v3 + 1) fun x18 =>
    f_X8_releaseHold_L71 F (fun a0 a1 a2 a3 a4 => f_X8_releaseHold_L31 F fu a0 a1 a2 a3 a4) S15 v0 v2 x18 v4)))
def f_X8_releaseHold (F : Nat) (S0 : St) (p0 : Nat) (p1 : Int32) : Option (Int32 × St) :=
  lt (ui S0 703 p0 ((si S0 703 p0) &&& ((1 <<< (p1 &&& 31)) ^^^ ((-1))))) fun S35 =>
  Option.bind (sr S35 700 p0) fun j36 =>
  Option.bind (sr S35 612 j36) fun j37 =>
  Option.bind (f_X10_at F S35 j37 p1) fun z38 => lt z38.1 fun r40 => lt z38.2 fun S39 =>
  f_X8_releaseHold_L31 F F S39 p0 r40 0 0
def f_X10_setHold (F : Nat) (S0 : St) (p0 : Nat) (p1 : Int32) (p2 : Int32) : Option ((Nat ⊕ Int32) × St) :=
  Option.bind (f_X10_needHold F S0 p0 p1) fun z1 => lt z1.2 fun S2 =>
  sm z1.1 (fun x => some (.inl x, S2)) (fun r3 =>
  Option.bind (sr S2 905 p0) fun j9 =>
  Option.bind (f_X10_hasBit F S2 (si S2 703 j9) p1) fun z10 => lt z10.1 fun r12 => lt z10.2 fun S11 =>
  if ¬ r12 = p2 then
  (Option.bind (f_X10_remember F S11 p0) fun S16 =>
  if p2 = 0 then
  (Option.bind (sr S16 905 p0) fun j20 =>
  Option.bind (f_X8_releaseHold F S16 j20 p1) fun z21 => lt z21.1 fun r23 => lt z21.2 fun S22 =>
  some (.inr r23, S22))
  else
  (Option.bind (sr S16 905 p0) fun j25 =>
  lt (ui S16 703 j25 ((si S16 703 j25) ||| (1 <<< (p1 &&& 31)))) fun S26 =>
  some (.inr 0, S26)))
  else
  (some (.inr 0, S11)))
def f_X8_hiddenOnlyBy_L52 (F : Nat) (k17 : St → Nat → Int32 → Int32 → Int32 → Int32 → Option (Int32 × St)) (S0 : St) (v0 : Nat) (v1 : Int32) (v2 : Int32) (v3 : Int32) (v4 : Int32) : Option (Int32 × St) :=
  lt (v4 + 1) fun x1 =>
  k17 S0 v0 v1 v2 v3 x1
def f_X8_hiddenOnlyBy_L17 (F : Nat) : Nat → St → Nat → Int32 → Int32 → Int32 → Int32 → Option (Int32 × St)
  | 0, _, _, _, _, _, _ => none
  | fu + 1, S0, v0, v1, v2, v3, v4 =>
    if (si S0 705 v0) ≤ v4 then
    (some (v3, S0))
    else
    (Option.bind (f_X8_isHidden F S0 v0 v4 v2) fun z4 => lt z4.1 fun r6 => lt z4.2 fun S5 =>
    if r6 = 0 then
    (f_X8_hiddenOnlyBy_L52 F (fun a0 a1 a2 a3 a4 a5 => f_X8_hiddenOnlyBy_L17 F fu a0 a1 a2 a3 a4 a5) S5 v0 v1 v2 v3 v4)
    else
    (Option.bind (f_X8_holdsCovering F S5 v0 v4 v2) fun z9 => lt z9.1 fun r11 => lt z9.2 fun S10 =>
    if ¬ r11 = (1 <<< (v1 &&& 31)) then
    (f_X8_hiddenOnlyBy_L52 F (fun a0 a1 a2 a3 a4 a5 => f_X8_hiddenOnlyBy_L17 F fu a0 a1 a2 a3 a4 a5) S10 v0 v1 v2 v3 v4)
    else
    (lt (v3 + 1) fun x14 =>
    f_X8_hiddenOnlyBy_L52 F (fun a0 a1 a2 a3 a4 a5 => f_X8_hiddenOnlyBy_L17 F fu a0 a1 a2 a3 a4 a5) S10 v0 v1 v2 x14 v4)))
def f_X8_hiddenOnlyBy (F : Nat) (S0 : St) (p0 : Nat) (p1 : Int32) : Option (Int32 × St) :=
  Option.bind (sr S0 700 p0) fun j27 =>
  Option.bind (sr S0 612 j27) fun j28 =>
  Option.bind (f_X10_at F S0 j28 p1) fun z29 => lt z29.1 fun r31 => lt z29.2 fun S30 =>
  f_X8_hiddenOnlyBy_L17 F F S30 p0 p1 r31 0 0
def f_X10_heldOnlyBy (F : Nat) (S0 : St) (p0 : Nat) (p1 : Int32) : Option ((Nat ⊕ Int32) × St) :=
  Option.bind (f_X10_needHold F S0 p0 p1) fun z1 => lt z1.2 fun S2 =>
  sm z1.1 (fun x => some (.inl x, S2)) (fun r3 =>
  Option.bind (sr S2 905 p0) fun j9 =>
  Option.bind (f_X8_hiddenOnlyBy F S2 j9 p1) fun z10 => lt z10.1 fun r12 => lt z10.2 fun S11 =>
  some (.inr r12, S11))
def f_X10_setQuota_L17 (F : Nat) (S0 : St) : Option ((Nat ⊕ Int32) × St) :=
  some (.inl 2, S0)
def f_X10_setQuota (F : Nat) (S0 : St) (p0 : Nat) (p1 : Int32) (p2 : Int32) : Option ((Nat ⊕ Int32) × St) :=
  Option.bind (f_X10_needUser F S0 p0 p1) fun z1 => lt z1.2 fun S2 =>
  sm z1.1 (fun x => some (.inl x, S2)) (fun r3 =>
  if p2 < 1 then
  (f_X10_setQuota_L17 F S2)
  else
  (if p2 ≤ 99999 then
  (Option.bind (sr S2 905 p0) fun j11 =>
  Option.bind (sr S2 704 j11) fun j12 =>
  Option.bind (f_X10_at F S2 j12 p1) fun z13 => lt z13.1 fun r15 => lt z13.2 fun S14 =>
  if r15 = p2 then
  (some (.inr r15, S14))
  else
  (Option.bind (f_X10_remember F S14 p0) fun S19 =>
  Option.bind (sr S19 905 p0) fun j22 =>
  Option.bind (sr S19 704 j22) fun j23 =>
  Option.bind (f_X10_put F S19 j23 p1 p2) fun S25 =>
  some (.inr r15, S25)))
  else
  (f_X10_setQuota_L17 F S2)))
def f_X8_dueDay (F : Nat) (S0 : St) (p0 : Nat) (p1 : Int32) (p2 : Int32) (p3 : Int32) : Option (Int32 × St) :=
  Option.bind (f_X8_retentionOf F S0 p0 p1 p2) fun z1 => lt z1.1 fun r3 => lt z1.2 fun S2 =>
  Option.bind (sr S2 700 p0) fun j5 =>
  Option.bind (sr S2 603 j5) fun j6 =>
  Option.bind (f_X10_at F S2 j6 r3) fun z7 => lt z7.1 fun r9 => lt z7.2 fun S8 =>
  if r9 = ((-1)) then
  (some (1000000000, S8))
  else
  (Option.bind (sr S8 700 p0) fun j12 =>
  Option.bind (sr S8 604 j12) fun j13 =>
  Option.bind (f_X10_at F S8 j13 r3) fun z14 => lt z14.1 fun r16 => lt z14.2 fun S15 =>
  if r16 ≤ p3 then
  (Option.bind (sr S15 709 p0) fun j19 =>
  Option.bind (f_X10_at F S15 j19 ((p1 * 10) + p2)) fun z20 => lt z20.1 fun r22 => lt z20.2 fun S21 =>
  some (if ((si S15 701 p0) + 1) < (r22 + r9) then (r22 + r9) else ((si S15 701 p0) + 1), S21))
  else
  (some (1000000000, S15)))
def f_X8_planLeavingOf_L75 (F : Nat) (k15 : St → Nat → Int32 → Int32 → Option (St)) (S0 : St) (v0 : Nat) (v1 : Int32) (v2 : Int32) (v3 : Int32) : Option (St) :=
  Option.bind (sr S0 712 v0) fun j1 =>
  Option.bind (f_X10_put F S0 j1 ((v2 * 10) + v1) v3) fun S3 =>
  lt (ui S3 713 v0 (if v3 < (si S3 713 v0) then v3 else (si S3 713 v0))) fun S6 =>
  lt (v2 + (-1)) fun x7 =>
  k15 S6 v0 v1 x7
def f_X8_planLeavingOf_L15 (F : Nat) : Nat → St → Nat → Int32 → Int32 → Option (St)
  | 0, _, _, _, _ => none
  | fu + 1, S0, v0, v1, v2 =>
    if v2 < 0 then
    (some S0)
    else
    (Option.bind (f_X8_stateOf F S0 v0 v2 v1) fun z16 => lt z16.1 fun r18 => lt z16.2 fun S17 =>
    if ¬ r18 = 0 then
    (f_X8_planLeavingOf_L75 F (fun a0 a1 a2 a3 => f_X8_planLeavingOf_L15 F fu a0 a1 a2 a3) S17 v0 v1 v2 1000000000)
    else
    (Option.bind (f_X8_retentionOf F S17 v0 v2 v1) fun z21 => lt z21.1 fun r23 => lt z21.2 fun S22 =>
    Option.bind (sr S22 714 v0) fun j25 =>
    Option.bind (f_X10_at F S22 j25 r23) fun z26 => lt z26.1 fun r28 => lt z26.2 fun S27 =>
    Option.bind (f_X8_dueDay F S27 v0 v2 v1 r28) fun z30 => lt z30.1 fun r32 => lt z30.2 fun S31 =>
    Option.bind (sr S31 714 v0) fun j34 =>
    Option.bind (sr S31 714 v0) fun j35 =>
    Option.bind (f_X10_at F S31 j35 r23) fun z36 => lt z36.1 fun r38 => lt z36.2 fun S37 =>
    Option.bind (f_X10_put F S37 j34 r23 (r38 + 1)) fun S41 =>
    f_X8_planLeavingOf_L75 F (fun a0 a1 a2 a3 => f_X8_planLeavingOf_L15 F fu a0 a1 a2 a3) S41 v0 v1 v2 r32))
def f_X8_planLeavingOf (F : Nat) (S0 : St) (p0 : Nat) (p1 : Int32) : Option (St) :=
  Option.bind (sr S0 714 p0) fun j73 =>
  Option.bind (f_J7_fill_53178 F S0 j73 ((0 : Int32))) fun S75 =>
  lt ((si S75 705 p0) - 1) fun x78 =>
  f_X8_planLeavingOf_L15 F F S75 p0 p1 x78
def f_X8_planLeaving_L8 (F : Nat) : Nat → St → Nat → Int32 → Option (St)
  | 0, _, _, _ => none
  | fu + 1, S0, v0, v1 =>
    Option.bind (sr S0 700 v0) fun j1 =>
    Option.bind (sr S0 606 j1) fun j2 =>
    if (si S0 401 j2) ≤ v1 then
    (some S0)
    else
    (Option.bind (f_X8_planLeavingOf F S0 v0 v1) fun S5 =>
    lt (v1 + 1) fun x8 =>
    (fun a0 a1 a2 => f_X8_planLeaving_L8 F fu a0 a1 a2) S5 v0 x8)
def f_X8_planLeaving (F : Nat) (S0 : St) (p0 : Nat) : Option (St) :=
  lt (ui S0 713 p0 1000000000) fun S17 =>
  f_X8_planLeaving_L8 F F S17 p0 0
def f_X8_leaveClasses_L115 (F : Nat) (k2 : St → Nat → Int32 → Option (St)) (k12 : St → Nat → Int32 → Int32 → Option (St)) (S0 : St) (v0 : Nat) (v1 : Int32) (v2 : Int32) : Option (St) :=
  lt (v2 + 1) fun x1 =>
  k12 S0 v0 v1 x1
def f_X8_leaveClasses_L90 (F : Nat) (k2 : St → Nat → Int32 → Option (St)) (k12 : St → Nat → Int32 → Int32 → Option (St)) (S0 : St) (v0 : Nat) (v1 : Int32) (v2 : Int32) (v3 : Int32) (v4 : Int32) : Option (St) :=
  if v4 = 0 then
  (f_X8_leaveClasses_L115 F k2 k12 S0 v0 v1 v2)
  else
  (Option.bind (f_X8_enterClass F S0 v0 v1 v2 v3) fun S5 =>
  Option.bind (sr S5 711 v0) fun j8 =>
  Option.bind (f_X2_note F S5 j8 (si S5 701 v0) ((3 : Int32)) v1) fun S10 =>
  f_X8_leaveClasses_L115 F k2 k12 S10 v0 v1 v2)
def f_X8_leaveClasses_L68 (F : Nat) (k2 : St → Nat → Int32 → Option (St)) (k12 : St → Nat → Int32 → Int32 → Option (St)) (S0 : St) (v0 : Nat) (v1 : Int32) (v2 : Int32) (v3 : Int32) (s0 : Int32) : Option (St) :=
  if s0 = 0 then
  (f_X8_leaveClasses_L90 F k2 k12 S0 v0 v1 v2 v3 s0)
  else
  (if ¬ v3 = ((-1)) then
  (f_X8_leaveClasses_L90 F k2 k12 S0 v0 v1 v2 v3 s0)
  else
  (Option.bind (f_X8_endReference F S0 v0 v1 v2 ((2 : Int32))) fun S26 =>
  f_X8_leaveClasses_L115 F k2 k12 S26 v0 v1 v2))
def f_X8_leaveClasses_L12 (F : Nat) (k2 : St → Nat → Int32 → Option (St)) : Nat → St → Nat → Int32 → Int32 → Option (St)
  | 0, _, _, _, _ => none
  | fu + 1, S0, v0, v1, v2 =>
    Option.bind (sr S0 700 v0) fun j35 =>
    Option.bind (sr S0 606 j35) fun j36 =>
    if (si S0 401 j36) ≤ v2 then
    (lt (v1 + 1) fun x38 =>
    k2 S0 v0 x38)
    else
    (Option.bind (sr S0 700 v0) fun j39 =>
    Option.bind (sr S0 605 j39) fun j40 =>
    Option.bind (f_X8_retentionOf F S0 v0 v1 v2) fun z41 => lt z41.1 fun r43 => lt z41.2 fun S42 =>
    Option.bind (f_X10_at F S42 j40 r43) fun z45 => lt z45.1 fun r47 => lt z45.2 fun S46 =>
    Option.bind (sr S46 712 v0) fun j49 =>
    Option.bind (f_X10_at F S46 j49 ((v1 * 10) + v2)) fun z50 => lt z50.1 fun r52 => lt z50.2 fun S51 =>
    if (si S51 701 v0) < r52 then
    (f_X8_leaveClasses_L68 F k2 (fun a0 a1 a2 a3 => f_X8_leaveClasses_L12 F k2 fu a0 a1 a2 a3) S51 v0 v1 v2 r47 0)
    else
    (f_X8_leaveClasses_L68 F k2 (fun a0 a1 a2 a3 => f_X8_leaveClasses_L12 F k2 fu a0 a1 a2 a3) S51 v0 v1 v2 r47 1))
def f_X8_leaveClasses_L2 (F : Nat) : Nat → St → Nat → Int32 → Option (St)
  | 0, _, _, _ => none
  | fu + 1, S0, v0, v1 =>
    if (si S0 705 v0) ≤ v1 then
    (some S0)
    else
    (f_X8_leaveClasses_L12 F (fun a0 a1 a2 => f_X8_leaveClasses_L2 F fu a0 a1 a2) F S0 v0 v1 0)
def f_X8_leaveClasses (F : Nat) (S0 : St) (p0 : Nat) : Option (St) :=
  f_X8_leaveClasses_L2 F F S0 p0 0
def f_X9_removeDead_L89 (F : Nat) (k6 : St → Nat → Int32 → Int32 → Nat → Int32 → Int32 → Option (Int32 × St)) (S0 : St) (v0 : Nat) (v1 : Int32) (v2 : Int32) (v3 : Nat) (v4 : Int32) (v5 : Int32) : Option (Int32 × St) :=
  lt (v5 + 1) fun x1 =>
  k6 S0 v0 v1 v2 v3 v4 x1
def f_X9_removeDead_L6 (F : Nat) : Nat → St → Nat → Int32 → Int32 → Nat → Int32 → Int32 → Option (Int32 × St)
  | 0, _, _, _, _, _, _, _ => none
  | fu + 1, S0, v0, v1, v2, v3, v4, v5 =>
    if (si S0 800 v0) ≤ v5 then
    (some (v4, S0))
    else
    (if (si S0 802 v0) ≤ 0 then
    (some (v4, S0))
    else
    (Option.bind (f_X9_isDead F S0 v0 v5) fun z5 => lt z5.1 fun r7 => lt z5.2 fun S6 =>
    if r7 = 0 then
    (f_X9_removeDead_L89 F (fun a0 a1 a2 a3 a4 a5 a6 => f_X9_removeDead_L6 F fu a0 a1 a2 a3 a4 a5 a6) S6 v0 v1 v2 v3 v4 v5)
    else
    (Option.bind (sr S6 806 v0) fun j10 =>
    Option.bind (f_X10_at F S6 j10 v5) fun z11 => lt z11.1 fun r13 => lt z11.2 fun S12 =>
    if (v1 - r13) < v2 then
    (f_X9_removeDead_L89 F (fun a0 a1 a2 a3 a4 a5 a6 => f_X9_removeDead_L6 F fu a0 a1 a2 a3 a4 a5 a6) S12 v0 v1 v2 v3 v4 v5)
    else
    (Option.bind (sr S12 806 v0) fun j16 =>
    Option.bind (f_X10_put F S12 j16 v5 (((-2) : Int32))) fun S18 =>
    lt (ui S18 801 v0 ((si S18 801 v0) - 1)) fun S21 =>
    lt (ui S21 802 v0 ((si S21 802 v0) - 1)) fun S22 =>
    lt (v4 + 1) fun x23 =>
    Option.bind (f_X2_note F S22 v3 v1 ((8 : Int32)) v5) fun S25 =>
    f_X9_removeDead_L89 F (fun a0 a1 a2 a3 a4 a5 a6 => f_X9_removeDead_L6 F fu a0 a1 a2 a3 a4 a5 a6) S25 v0 v1 v2 v3 x23 v5))))
def f_X9_removeDead (F : Nat) (S0 : St) (p0 : Nat) (p1 : Int32) (p2 : Int32) (p3 : Nat) : Option (Int32 × St) :=
  f_X9_removeDead_L6 F F S0 p0 p1 p2 p3 0 0
def f_X8_beginDay_L93 (F : Nat) (S0 : St) (v0 : Nat) (v1 : Int32) : Option (Int32 × St) :=
  Option.bind (sr S0 711 v0) fun j1 =>
  Option.bind (f_X2_note F S0 j1 (si S0 701 v0) ((10 : Int32)) (si S0 701 v0)) fun S3 =>
  some (v1, S3)
def f_X8_beginDay_L29 (F : Nat) (S0 : St) (v0 : Nat) : Option (Int32 × St) :=
  Option.bind (sr S0 700 v0) fun j11 =>
  if (si S0 601 j11) ≤ 0 then
  (f_X8_beginDay_L93 F S0 v0 0)
  else
  (Option.bind (sr S0 700 v0) fun j13 =>
  ck (¬ (si S0 601 j13) = 0) <|
  if ¬ ((si S0 701 v0) - (si S0 701 v0) / (si S0 601 j13) * (si S0 601 j13)) = 0 then
  (f_X8_beginDay_L93 F S0 v0 0)
  else
  (Option.bind (sr S0 710 v0) fun j16 =>
  Option.bind (sr S0 700 v0) fun j17 =>
  Option.bind (sr S0 711 v0) fun j18 =>
  Option.bind (f_X9_removeDead F S0 j16 (si S0 701 v0) (si S0 600 j17) j18) fun z19 => lt z19.1 fun r21 => lt z19.2 fun S20 =>
  Option.bind (sr S20 711 v0) fun j23 =>
  Option.bind (f_X2_note F S20 j23 (si S20 701 v0) ((9 : Int32)) r21) fun S25 =>
  f_X8_beginDay_L93 F S25 v0 r21))
def f_X8_beginDay (F : Nat) (S0 : St) (p0 : Nat) : Option (Int32 × St) :=
  lt (ui S0 701 p0 ((si S0 701 p0) + 1)) fun S45 =>
  if (si S45 701 p0) < (si S45 713 p0) then
  (f_X8_beginDay_L29 F S45 p0)
  else
  (Option.bind (f_X8_leaveClasses F S45 p0) fun S48 =>
  Option.bind (f_X8_planLeaving F S48 p0) fun S52 =>
  f_X8_beginDay_L29 F S52 p0)
def f_X10_advance_L64 (F : Nat) : Nat → St → Nat → Int32 → Int32 → Int32 → Option ((Nat ⊕ Int32) × St)
  | 0, _, _, _, _, _ => none
  | fu + 1, S0, v0, v1, v2, v3 =>
    if v1 ≤ v3 then
    (some (.inr v2, S0))
    else
    (Option.bind (sr S0 905 v0) fun j2 =>
    Option.bind (f_X8_beginDay F S0 j2) fun z3 => lt z3.1 fun r5 => lt z3.2 fun S4 =>
    lt (v2 + r5) fun x7 =>
    lt (v3 + 1) fun x8 =>
    (fun a0 a1 a2 a3 a4 => f_X10_advance_L64 F fu a0 a1 a2 a3 a4) S4 v0 v1 x7 x8)
def f_X10_advance_L12 (F : Nat) (S0 : St) : Option ((Nat ⊕ Int32) × St) :=
  some (.inl 2, S0)
def f_X10_advance (F : Nat) (S0 : St) (p0 : Nat) (p1 : Int32) : Option ((Nat ⊕ Int32) × St) :=
  if p1 < 1 then
  (f_X10_advance_L12 F S0)
  else
  (if p1 ≤ 1000 then
  (Option.bind (sr S0 905 p0) fun j19 =>
  if ((si S0 701 j19) + p1) ≤ 20000 then
  (Option.bind (f_X10_remember F S0 p0) fun S22 =>
  Option.bind (sr S22 905 p0) fun j25 =>
  Option.bind (f_X8_planLeaving F S22 j25) fun S27 =>
  f_X10_advance_L64 F F S27 p0 p1 0 0)
  else
  (some (.inl 1, S0)))
  else
  (f_X10_advance_L12 F S0))
def f_X10_nextRound (F : Nat) (S0 : St) (p0 : Nat) : Option (Int32 × St) :=
  Option.bind (sr S0 905 p0) fun j1 =>
  Option.bind (sr S0 700 j1) fun j2 =>
  lt (si S0 601 j2) fun x3 =>
  if x3 ≤ 0 then
  (some ((-1), S0))
  else
  (Option.bind (sr S0 905 p0) fun j5 =>
  ck (¬ x3 = 0) <|
  some ((((si S0 701 j5) / x3) + 1) * x3, S0))
def f_X10_lookAhead (F : Nat) (S0 : St) (p0 : Nat) : Option (St) :=
  Option.bind (sr S0 906 p0) fun j1 =>
  Option.bind (sr S0 905 p0) fun j2 =>
  Option.bind (f_X8_copyFrom F S0 j1 j2) fun S4 =>
  Option.bind (sr S4 906 p0) fun j7 =>
  Option.bind (f_X8_planLeaving F S4 j7) fun S9 =>
  some S9
def f_X8_isAtRest (F : Nat) (S0 : St) (p0 : Nat) : Option (Int32 × St) :=
  if ¬ (si S0 713 p0) = 1000000000 then
  (some (0, S0))
  else
  (Option.bind (sr S0 710 p0) fun j2 =>
  if ¬ (si S0 802 j2) = 0 then
  (some (0, S0))
  else
  (some (1, S0)))
def f_X10_removedOn_L56 (F : Nat) (S0 : St) (v0 : Nat) (v1 : Int32) : Option ((Nat ⊕ Int32) × St) :=
  Option.bind (sr S0 906 v0) fun j1 =>
  Option.bind (sr S0 710 j1) fun j2 =>
  Option.bind (f_X9_isStored F S0 j2 v1) fun z3 => lt z3.1 fun r5 => lt z3.2 fun S4 =>
  if r5 = 0 then
  (Option.bind (sr S4 906 v0) fun j8 =>
  some (.inr (si S4 701 j8), S4))
  else
  (some (.inr ((-1)), S4))
def f_X10_removedOn_L11 (F : Nat) : Nat → St → Nat → Int32 → Int32 → Option ((Nat ⊕ Int32) × St)
  | 0, _, _, _, _ => none
  | fu + 1, S0, v0, v1, v2 =>
    if 2000 ≤ v2 then
    (f_X10_removedOn_L56 F S0 v0 v1)
    else
    (Option.bind (sr S0 906 v0) fun j18 =>
    Option.bind (sr S0 710 j18) fun j19 =>
    Option.bind (f_X9_isStored F S0 j19 v1) fun z20 => lt z20.1 fun r22 => lt z20.2 fun S21 =>
    if r22 = 0 then
    (f_X10_removedOn_L56 F S21 v0 v1)
    else
    (Option.bind (sr S21 906 v0) fun j25 =>
    Option.bind (f_X8_isAtRest F S21 j25) fun z26 => lt z26.1 fun r28 => lt z26.2 fun S27 =>
    if ¬ r28 = 0 then
    (f_X10_removedOn_L56 F S27 v0 v1)
    else
    (Option.bind (sr S27 906 v0) fun j31 =>
    Option.bind (f_X8_beginDay F S27 j31) fun z32 => lt z32.1 fun r34 => lt z32.2 fun S33 =>
    lt (v2 + 1) fun x36 =>
    (fun a0 a1 a2 a3 => f_X10_removedOn_L11 F fu a0 a1 a2 a3) S33 v0 v1 x36)))
def f_X10_removedOn (F : Nat) (S0 : St) (p0 : Nat) (p1 : Int32) : Option ((Nat ⊕ Int32) × St) :=
  Option.bind (f_X10_needPart F S0 p0 p1) fun z57 => lt z57.2 fun S58 =>
  sm z57.1 (fun x => some (.inl x, S58)) (fun r59 =>
  Option.bind (f_X10_lookAhead F S58 p0) fun S66 =>
  f_X10_removedOn_L11 F F S66 p0 p1 0)
def f_X10_emptyOn_L50 (F : Nat) (S0 : St) (v0 : Nat) : Option (Int32 × St) :=
  Option.bind (sr S0 906 v0) fun j1 =>
  Option.bind (sr S0 710 j1) fun j2 =>
  if (si S0 801 j2) ≤ 0 then
  (Option.bind (sr S0 906 v0) fun j4 =>
  some (si S0 701 j4, S0))
  else
  (some ((-1), S0))
def f_X10_emptyOn_L6 (F : Nat) : Nat → St → Nat → Int32 → Option (Int32 × St)
  | 0, _, _, _ => none
  | fu + 1, S0, v0, v1 =>
    if 2000 ≤ v1 then
    (f_X10_emptyOn_L50 F S0 v0)
    else
    (Option.bind (sr S0 906 v0) fun j10 =>
    Option.bind (sr S0 710 j10) fun j11 =>
    if (si S0 801 j11) ≤ 0 then
    (f_X10_emptyOn_L50 F S0 v0)
    else
    (Option.bind (sr S0 906 v0) fun j13 =>
    Option.bind (f_X8_isAtRest F S0 j13) fun z14 => lt z14.1 fun r16 => lt z14.2 fun S15 =>
    if ¬ r16 = 0 then
    (f_X10_emptyOn_L50 F S15 v0)
    else
    (Option.bind (sr S15 906 v0) fun j19 =>
    Option.bind (f_X8_beginDay F S15 j19) fun z20 => lt z20.1 fun r22 => lt z20.2 fun S21 =>
    lt (v1 + 1) fun x24 =>
    (fun a0 a1 a2 => f_X10_emptyOn_L6 F fu a0 a1 a2) S21 v0 x24)))
def f_X10_emptyOn (F : Nat) (S0 : St) (p0 : Nat) : Option (Int32 × St) :=
  Option.bind (f_X10_lookAhead F S0 p0) fun S42 =>
  f_X10_emptyOn_L6 F F S42 p0 0
def f_X10_needDaysAhead_L11 (F : Nat) (S0 : St) : Option ((Nat ⊕ Unit) × St) :=
  some (.inl 2, S0)
def f_X10_needDaysAhead (F : Nat) (S0 : St) (p0 : Int32) : Option ((Nat ⊕ Unit) × St) :=
  if p0 < 0 then
  (f_X10_needDaysAhead_L11 F S0)
  else
  (if p0 ≤ 2000 then
  (some (.inr (), S0))
  else
  (f_X10_needDaysAhead_L11 F S0))
def f_X10_bytesAfter_L39 (F : Nat) (S0 : St) (v0 : Nat) : Option ((Nat ⊕ Int32) × St) :=
  Option.bind (sr S0 906 v0) fun j1 =>
  Option.bind (sr S0 710 j1) fun j2 =>
  Option.bind (f_X9_byteSum F S0 j2 ((0 : Int32))) fun z3 => lt z3.1 fun r5 => lt z3.2 fun S4 =>
  some (.inr r5, S4)
def f_X10_bytesAfter_L10 (F : Nat) : Nat → St → Nat → Int32 → Int32 → Option ((Nat ⊕ Int32) × St)
  | 0, _, _, _, _ => none
  | fu + 1, S0, v0, v1, v2 =>
    if v1 ≤ v2 then
    (f_X10_bytesAfter_L39 F S0 v0)
    else
    (Option.bind (sr S0 906 v0) fun j14 =>
    Option.bind (f_X8_isAtRest F S0 j14) fun z15 => lt z15.1 fun r17 => lt z15.2 fun S16 =>
    if ¬ r17 = 0 then
    (f_X10_bytesAfter_L39 F S16 v0)
    else
    (Option.bind (sr S16 906 v0) fun j20 =>
    Option.bind (f_X8_beginDay F S16 j20) fun z21 => lt z21.1 fun r23 => lt z21.2 fun S22 =>
    lt (v2 + 1) fun x25 =>
    (fun a0 a1 a2 a3 => f_X10_bytesAfter_L10 F fu a0 a1 a2 a3) S22 v0 v1 x25))
def f_X10_bytesAfter (F : Nat) (S0 : St) (p0 : Nat) (p1 : Int32) : Option ((Nat ⊕ Int32) × St) :=
  Option.bind (f_X10_needDaysAhead F S0 p1) fun z39 => lt z39.2 fun S40 =>
  sm z39.1 (fun x => some (.inl x, S40)) (fun r41 =>
  Option.bind (f_X10_lookAhead F S40 p0) fun S48 =>
  f_X10_bytesAfter_L10 F F S48 p0 p1 0)
def f_X8_liveOf_L24 (F : Nat) (k4 : St → Nat → Int32 → Int32 → Int32 → Option (Int32 × St)) (S0 : St) (v0 : Nat) (v1 : Int32) (v2 : Int32) (v3 : Int32) : Option (Int32 × St) :=
  lt (v3 + 1) fun x1 =>
  k4 S0 v0 v1 v2 x1
def f_X8_liveOf_L4 (F : Nat) : Nat → St → Nat → Int32 → Int32 → Int32 → Option (Int32 × St)
  | 0, _, _, _, _, _ => none
  | fu + 1, S0, v0, v1, v2, v3 =>
    if (si S0 705 v0) ≤ v3 then
    (some (v2, S0))
    else
    (Option.bind (f_X8_stateOf F S0 v0 v3 v1) fun z4 => lt z4.1 fun r6 => lt z4.2 fun S5 =>
    if ¬ r6 = 0 then
    (f_X8_liveOf_L24 F (fun a0 a1 a2 a3 a4 => f_X8_liveOf_L4 F fu a0 a1 a2 a3 a4) S5 v0 v1 v2 v3)
    else
    (lt (v2 + 1) fun x9 =>
    f_X8_liveOf_L24 F (fun a0 a1 a2 a3 a4 => f_X8_liveOf_L4 F fu a0 a1 a2 a3 a4) S5 v0 v1 x9 v3))
def f_X8_liveOf (F : Nat) (S0 : St) (p0 : Nat) (p1 : Int32) : Option (Int32 × St) :=
  f_X8_liveOf_L4 F F S0 p0 p1 0 0
def f_X10_goneAfter_L44 (F : Nat) (S0 : St) (v0 : Nat) (v1 : Int32) : Option ((Nat ⊕ Int32) × St) :=
  Option.bind (sr S0 905 v0) fun j1 =>
  Option.bind (f_X8_liveOf F S0 j1 v1) fun z2 => lt z2.1 fun r4 => lt z2.2 fun S3 =>
  Option.bind (sr S3 906 v0) fun j6 =>
  Option.bind (f_X8_liveOf F S3 j6 v1) fun z7 => lt z7.1 fun r9 => lt z7.2 fun S8 =>
  some (.inr (r4 - r9), S8)
def f_X10_goneAfter_L15 (F : Nat) : Nat → St → Nat → Int32 → Int32 → Int32 → Option ((Nat ⊕ Int32) × St)
  | 0, _, _, _, _, _ => none
  | fu + 1, S0, v0, v1, v2, v3 =>
    if v2 ≤ v3 then
    (f_X10_goneAfter_L44 F S0 v0 v1)
    else
    (Option.bind (sr S0 906 v0) fun j22 =>
    Option.bind (f_X8_isAtRest F S0 j22) fun z23 => lt z23.1 fun r25 => lt z23.2 fun S24 =>
    if ¬ r25 = 0 then
    (f_X10_goneAfter_L44 F S24 v0 v1)
    else
    (Option.bind (sr S24 906 v0) fun j28 =>
    Option.bind (f_X8_beginDay F S24 j28) fun z29 => lt z29.1 fun r31 => lt z29.2 fun S30 =>
    lt (v3 + 1) fun x33 =>
    (fun a0 a1 a2 a3 a4 => f_X10_goneAfter_L15 F fu a0 a1 a2 a3 a4) S30 v0 v1 v2 x33))
def f_X10_goneAfter (F : Nat) (S0 : St) (p0 : Nat) (p1 : Int32) (p2 : Int32) : Option ((Nat ⊕ Int32) × St) :=
  Option.bind (f_X10_needUser F S0 p0 p1) fun z47 => lt z47.2 fun S48 =>
  sm z47.1 (fun x => some (.inl x, S48)) (fun r49 =>
  Option.bind (f_X10_needDaysAhead F S48 p2) fun z55 => lt z55.2 fun S56 =>
  sm z55.1 (fun x => some (.inl x, S56)) (fun r57 =>
  Option.bind (f_X10_lookAhead F S56 p0) fun S64 =>
  f_X10_goneAfter_L15 F F S64 p0 p1 p2 0))
def f_X10_eventCount (F : Nat) (S0 : St) (p0 : Nat) : Option (Int32 × St) :=
  Option.bind (sr S0 905 p0) fun j1 =>
  Option.bind (sr S0 711 j1) fun j2 =>
  some (si S0 204 j2, S0)
def f_X2_valueAt (F : Nat) (S0 : St) (p0 : Nat) (p1 : Int32) (p2 : Int32) : Option (Int32 × St) :=
  lt (((si S0 203 p0) + p1) - ((si S0 203 p0) + p1) / 60 * 60) fun x1 =>
  if ¬ p2 = 0 then
  (if ¬ p2 = 1 then
  (Option.bind (sr S0 202 p0) fun j4 =>
  Option.bind (f_X10_at F S0 j4 x1) fun z5 => lt z5.1 fun r7 => lt z5.2 fun S6 =>
  some (r7, S6))
  else
  (Option.bind (sr S0 201 p0) fun j9 =>
  Option.bind (f_X10_at F S0 j9 x1) fun z10 => lt z10.1 fun r12 => lt z10.2 fun S11 =>
  some (r12, S11)))
  else
  (Option.bind (sr S0 200 p0) fun j14 =>
  Option.bind (f_X10_at F S0 j14 x1) fun z15 => lt z15.1 fun r17 => lt z15.2 fun S16 =>
  some (r17, S16))
def f_X10_event_L18 (F : Nat) (S0 : St) : Option ((Nat ⊕ Int32) × St) :=
  some (.inl 4, S0)
def f_X10_event (F : Nat) (S0 : St) (p0 : Nat) (p1 : Int32) (p2 : Int32) : Option ((Nat ⊕ Int32) × St) :=
  if p1 < 0 then
  (f_X10_event_L18 F S0)
  else
  (Option.bind (sr S0 905 p0) fun j2 =>
  Option.bind (sr S0 711 j2) fun j3 =>
  if p1 < (si S0 204 j3) then
  (Option.bind (f_X10_needWhat F S0 p2 ((2 : Int32))) fun z5 => lt z5.2 fun S6 =>
  sm z5.1 (fun x => some (.inl x, S6)) (fun r7 =>
  Option.bind (sr S6 905 p0) fun j13 =>
  Option.bind (sr S6 711 j13) fun j14 =>
  Option.bind (f_X2_valueAt F S6 j14 p1 p2) fun z15 => lt z15.1 fun r17 => lt z15.2 fun S16 =>
  some (.inr r17, S16)))
  else
  (f_X10_event_L18 F S0))
def f_X10_eventsOf_L59 (F : Nat) (k26 : St → Nat → Int32 → Int32 → Int32 → Option ((Nat ⊕ Int32) × St)) (S0 : St) (v0 : Nat) (v1 : Int32) (v2 : Int32) (v3 : Int32) : Option ((Nat ⊕ Int32) × St) :=
  lt (v3 + 1) fun x1 =>
  k26 S0 v0 v1 v2 x1
def f_X10_eventsOf_L26 (F : Nat) : Nat → St → Nat → Int32 → Int32 → Int32 → Option ((Nat ⊕ Int32) × St)
  | 0, _, _, _, _, _ => none
  | fu + 1, S0, v0, v1, v2, v3 =>
    Option.bind (sr S0 905 v0) fun j3 =>
    Option.bind (sr S0 711 j3) fun j4 =>
    if (si S0 204 j4) ≤ v3 then
    (some (.inr v2, S0))
    else
    (Option.bind (sr S0 905 v0) fun j6 =>
    Option.bind (sr S0 711 j6) fun j7 =>
    Option.bind (f_X2_valueAt F S0 j7 v3 ((1 : Int32))) fun z8 => lt z8.1 fun r10 => lt z8.2 fun S9 =>
    if ¬ r10 = v1 then
    (f_X10_eventsOf_L59 F (fun a0 a1 a2 a3 a4 => f_X10_eventsOf_L26 F fu a0 a1 a2 a3 a4) S9 v0 v1 v2 v3)
    else
    (lt (v2 + 1) fun x13 =>
    f_X10_eventsOf_L59 F (fun a0 a1 a2 a3 a4 => f_X10_eventsOf_L26 F fu a0 a1 a2 a3 a4) S9 v0 v1 x13 v3))
def f_X10_eventsOf_L11 (F : Nat) (S0 : St) : Option ((Nat ⊕ Int32) × St) :=
  some (.inl 2, S0)
def f_X10_eventsOf (F : Nat) (S0 : St) (p0 : Nat) (p1 : Int32) : Option ((Nat ⊕ Int32) × St) :=
  if p1 < 1 then
  (f_X10_eventsOf_L11 F S0)
  else
  (if p1 ≤ 10 then
  (f_X10_eventsOf_L26 F F S0 p0 p1 0 0)
  else
  (f_X10_eventsOf_L11 F S0))
def f_X10_undo (F : Nat) (S0 : St) (p0 : Nat) : Option ((Nat ⊕ Int32) × St) :=
  if 0 < (si S0 909 p0) then
  (lt (ui S0 909 p0 ((si S0 909 p0) - 1)) fun S2 =>
  Option.bind (f_X10_pastAt F S2 p0 (si S2 909 p0)) fun z3 => lt z3.1 fun r5 => lt z3.2 fun S4 =>
  os r5 (
  some (.inr (si S4 909 p0), S4)) (fun j7 =>
  Option.bind (sr S4 905 p0) fun j8 =>
  Option.bind (f_X8_copyFrom F S4 j8 j7) fun S10 =>
  some (.inr (si S10 909 p0), S10)))
  else
  (some (.inl 1, S0))
def f_X10_undoCount (F : Nat) (S0 : St) (p0 : Nat) : Option (Int32 × St) :=
  some (si S0 909 p0, S0)
def f_X0_addNumber_L52 (F : Nat) (k6 : St → Nat → Int32 → Int32 → Int32 → Option (St)) (S0 : St) (v0 : Nat) (v1 : Int32) (v2 : Int32) (v3 : Int32) : Option (St) :=
  lt (v3 / 10) fun x1 =>
  k6 S0 v0 v1 v2 x1
def f_X0_addNumber_L38 (F : Nat) (k6 : St → Nat → Int32 → Int32 → Int32 → Option (St)) (S0 : St) (v0 : Nat) (v1 : Int32) (v3 : Int32) (v4 : Int32) (s0 : Int32) : Option (St) :=
  if s0 = 0 then
  (f_X0_addNumber_L52 F k6 S0 v0 v1 s0 v3)
  else
  (Option.bind (f_X0_add F S0 v0 (48 + v4)) fun S5 =>
  f_X0_addNumber_L52 F k6 S5 v0 v1 s0 v3)
def f_X0_addNumber_L33 (F : Nat) (k6 : St → Nat → Int32 → Int32 → Int32 → Option (St)) (S0 : St) (v0 : Nat) (v1 : Int32) (v3 : Int32) (v4 : Int32) : Option (St) :=
  f_X0_addNumber_L38 F k6 S0 v0 v1 v3 v4 1
def f_X0_addNumber_L6 (F : Nat) : Nat → St → Nat → Int32 → Int32 → Int32 → Option (St)
  | 0, _, _, _, _, _ => none
  | fu + 1, S0, v0, v1, v2, v3 =>
    if v3 < 1 then
    (some S0)
    else
    (ck (¬ v3 = 0) <|
    lt ((v1 / v3) - (v1 / v3) / 10 * 10) fun x15 =>
    if ¬ v2 = 0 then
    (f_X0_addNumber_L33 F (fun a0 a1 a2 a3 a4 => f_X0_addNumber_L6 F fu a0 a1 a2 a3 a4) S0 v0 v1 v3 x15)
    else
    (if ¬ x15 = 0 then
    (f_X0_addNumber_L33 F (fun a0 a1 a2 a3 a4 => f_X0_addNumber_L6 F fu a0 a1 a2 a3 a4) S0 v0 v1 v3 x15)
    else
    (if ¬ v3 = 1 then
    (f_X0_addNumber_L38 F (fun a0 a1 a2 a3 a4 => f_X0_addNumber_L6 F fu a0 a1 a2 a3 a4) S0 v0 v1 v3 x15 0)
    else
    (f_X0_addNumber_L33 F (fun a0 a1 a2 a3 a4 => f_X0_addNumber_L6 F fu a0 a1 a2 a3 a4) S0 v0 v1 v3 x15))))
def f_X0_addNumber (F : Nat) (S0 : St) (p0 : Nat) (p1 : Int32) : Option (St) :=
  f_X0_addNumber_L6 F F S0 p0 p1 0 10000
def f_X5_nameAt (F : Nat) (S0 : St) (p0 : Nat) (p1 : Int32) : Option (Int64 × St) :=
  Option.bind (f_X5_has F S0 p0 p1) fun z1 => lt z1.1 fun r3 => lt z1.2 fun S2 =>
  if r3 = 0 then
  (some (0, S2))
  else
  (Option.bind (sr S2 400 p0) fun j6 =>
  if (nI (ln S2 j6)) ≤ p1 then
  (some (0, S2))
  else
  (Option.bind (sr S2 400 p0) fun j8 =>
  cki p1 (ln S2 j8) <|
  some (al S2 j8 (Int32.toNatClampNeg p1), S2)))
def f_X0_addWord_L36 (F : Nat) (k4 : St → Nat → Int64 → Int64 → Option (St)) (S0 : St) (v0 : Nat) (v1 : Int64) (v3 : Int64) : Option (St) :=
  lt (v3 / ((27))) fun x1 =>
  k4 S0 v0 v1 x1
def f_X0_addWord_L4 (F : Nat) : Nat → St → Nat → Int64 → Int64 → Option (St)
  | 0, _, _, _, _ => none
  | fu + 1, S0, v0, v1, v3 =>
    if (lg_cmp v3 1) < 0 then
    (some S0)
    else
    (ck (¬ v3 = 0) <|
    lt (((v1 / v3) - (v1 / v3) / ((27)) * ((27))).toInt32) fun x5 =>
    if x5 ≤ 0 then
    (f_X0_addWord_L36 F (fun a0 a1 a2 a3 => f_X0_addWord_L4 F fu a0 a1 a2 a3) S0 v0 v1 v3)
    else
    (Option.bind (f_X0_add F S0 v0 ((97 + x5) - 1)) fun S8 =>
    f_X0_addWord_L36 F (fun a0 a1 a2 a3 => f_X0_addWord_L4 F fu a0 a1 a2 a3) S8 v0 v1 v3))
def f_X0_addWord (F : Nat) (S0 : St) (p0 : Nat) (p1 : Int64) : Option (St) :=
  lt ((14348907)) fun x19 =>
  f_X0_addWord_L4 F F S0 p0 p1 x19
def f_X10_writeReference (F : Nat) (S0 : St) (p0 : Nat) (p1 : Int32) (p2 : Int32) : Option (St) :=
  Option.bind (sr S0 901 p0) fun j1 =>
  Option.bind (f_X0_addNumber F S0 j1 p1) fun S3 =>
  Option.bind (sr S3 901 p0) fun j6 =>
  Option.bind (f_X0_add F S3 j6 ((58 : Int32))) fun S8 =>
  Option.bind (sr S8 901 p0) fun j11 =>
  Option.bind (sr S8 905 p0) fun j12 =>
  Option.bind (sr S8 700 j12) fun j13 =>
  Option.bind (sr S8 602 j13) fun j14 =>
  Option.bind (sr S8 905 p0) fun j15 =>
  Option.bind (f_X8_retentionOf F S8 j15 p1 p2) fun z16 => lt z16.1 fun r18 => lt z16.2 fun S17 =>
  Option.bind (f_X5_nameAt F S17 j14 r18) fun z20 => lt z20.1 fun r22 => lt z20.2 fun S21 =>
  Option.bind (f_X0_addWord F S21 j11 r22) fun S25 =>
  Option.bind (sr S25 901 p0) fun j28 =>
  Option.bind (f_X0_add F S25 j28 ((47 : Int32))) fun S30 =>
  Option.bind (sr S30 901 p0) fun j33 =>
  Option.bind (sr S30 905 p0) fun j34 =>
  Option.bind (sr S30 709 j34) fun j35 =>
  Option.bind (f_X10_at F S30 j35 ((p1 * 10) + p2)) fun z36 => lt z36.1 fun r38 => lt z36.2 fun S37 =>
  Option.bind (f_X0_addNumber F S37 j33 r38) fun S41 =>
  Option.bind (sr S41 901 p0) fun j44 =>
  Option.bind (f_X0_add F S41 j44 ((10 : Int32))) fun S46 =>
  some S46
def f_X10_writeMailbox_L44 (F : Nat) (k15 : St → Nat → Int32 → Int32 → Option ((Nat ⊕ Int32) × St)) (S0 : St) (v0 : Nat) (v1 : Int32) (v2 : Int32) : Option ((Nat ⊕ Int32) × St) :=
  lt (v2 + 1) fun x1 =>
  k15 S0 v0 v1 x1
def f_X10_writeMailbox_L15 (F : Nat) : Nat → St → Nat → Int32 → Int32 → Option ((Nat ⊕ Int32) × St)
  | 0, _, _, _, _ => none
  | fu + 1, S0, v0, v1, v2 =>
    Option.bind (sr S0 905 v0) fun j3 =>
    if (si S0 705 j3) ≤ v2 then
    (Option.bind (sr S0 901 v0) fun j5 =>
    some (.inr (si S0 1 j5), S0))
    else
    (Option.bind (sr S0 905 v0) fun j6 =>
    Option.bind (f_X8_stateOf F S0 j6 v2 v1) fun z7 => lt z7.1 fun r9 => lt z7.2 fun S8 =>
    if ¬ r9 = 0 then
    (f_X10_writeMailbox_L44 F (fun a0 a1 a2 a3 => f_X10_writeMailbox_L15 F fu a0 a1 a2 a3) S8 v0 v1 v2)
    else
    (Option.bind (f_X10_writeReference F S8 v0 v2 v1) fun S13 =>
    f_X10_writeMailbox_L44 F (fun a0 a1 a2 a3 => f_X10_writeMailbox_L15 F fu a0 a1 a2 a3) S13 v0 v1 v2))
def f_X10_writeMailbox (F : Nat) (S0 : St) (p0 : Nat) (p1 : Int32) : Option ((Nat ⊕ Int32) × St) :=
  Option.bind (f_X10_needUser F S0 p0 p1) fun z29 => lt z29.2 fun S30 =>
  sm z29.1 (fun x => some (.inl x, S30)) (fun r31 =>
  Option.bind (sr S30 901 p0) fun j37 =>
  Option.bind (f_X0_cutTo F S30 j37 ((0 : Int32))) fun S39 =>
  f_X10_writeMailbox_L15 F F S39 p0 p1 0)
def f_X10_outputByte_L15 (F : Nat) (S0 : St) : Option ((Nat ⊕ Int32) × St) :=
  some (.inl 3, S0)
def f_X10_outputByte (F : Nat) (S0 : St) (p0 : Nat) (p1 : Int32) : Option ((Nat ⊕ Int32) × St) :=
  if p1 < 0 then
  (f_X10_outputByte_L15 F S0)
  else
  (Option.bind (sr S0 901 p0) fun j2 =>
  if p1 < (si S0 1 j2) then
  (Option.bind (sr S0 901 p0) fun j4 =>
  Option.bind (f_X0_byteAt F S0 j4 p1) fun z5 => lt z5.1 fun r7 => lt z5.2 fun S6 =>
  some (.inr r7, S6))
  else
  (f_X10_outputByte_L15 F S0))
def f_X11_thrown (F : Nat) (S0 : St) (p0 : Nat) : Option (Int32 × St) :=
  some (si S0 1000 p0, S0)
def f_X11_in (F : Nat) (S0 : St) (p0 : Int64) (p1 : Int64) (p2 : Int64) : Option (Int32 × St) :=
  if (lg_cmp p0 p1) < 0 then
  (some (0, S0))
  else
  (if 0 < (lg_cmp p0 p2) then
  (some (0, S0))
  else
  (some (1, S0)))
def f_X11_passes3_L26 (F : Nat) (S0 : St) (v0 : Nat) (s0 : Int32) (s1 : Nat) : Option (Int32 × St) :=
  lt (ui S0 1000 s1 s0) fun S1 =>
  if ¬ (si S1 1000 v0) = 0 then
  (some (0, S1))
  else
  (some (1, S1))
def f_X11_passes3 (F : Nat) (S0 : St) (p0 : Nat) (p1 : Int32) (p2 : Int32) (p3 : Int32) : Option (Int32 × St) :=
  if ¬ p1 = 0 then
  (if ¬ p2 = 0 then
  (if ¬ p3 = 0 then
  (f_X11_passes3_L26 F S0 p0 0 p0)
  else
  (f_X11_passes3_L26 F S0 p0 3 p0))
  else
  (f_X11_passes3_L26 F S0 p0 2 p0))
  else
  (f_X11_passes3_L26 F S0 p0 1 p0)
def f_X11_passes2 (F : Nat) (S0 : St) (p0 : Nat) (p1 : Int32) (p2 : Int32) : Option (Int32 × St) :=
  Option.bind (f_X11_passes3 F S0 p0 p1 p2 ((1 : Int32))) fun z1 => lt z1.1 fun r3 => lt z1.2 fun S2 =>
  ck (r3 = 0 ∨ r3 = 1) <| some (r3, S2)
def f_X11_passes (F : Nat) (S0 : St) (p0 : Nat) (p1 : Int32) : Option (Int32 × St) :=
  Option.bind (f_X11_passes3 F S0 p0 p1 ((1 : Int32)) ((1 : Int32))) fun z1 => lt z1.1 fun r3 => lt z1.2 fun S2 =>
  ck (r3 = 0 ∨ r3 = 1) <| some (r3, S2)
def f_X11_hasBit (F : Nat) (S0 : St) (p0 : Int32) (p1 : Int32) : Option (Int32 × St) :=
  if ¬ ((p0 >>> (p1 &&& 31)) &&& 1) = 1 then
  (some (0, S0))
  else
  (some (1, S0))
def f_X11_init (F : Nat) (S0 : St) (n : Nat) (p0 : Nat) : Option (St × Nat) :=
  lt (nar S0 n 6391) fun S4 => lt (n + 1) fun n5 =>
  lt (ur S4 1001 p0 (some n)) fun S7 =>
  lt (nar S7 n5 6391) fun S11 => lt (n5 + 1) fun n12 =>
  lt (ur S11 1002 p0 (some n5)) fun S14 =>
  lt (nar S14 n12 96000) fun S18 => lt (n12 + 1) fun n19 =>
  lt (ur S18 1003 p0 (some n12)) fun S21 =>
  Option.bind (sr S21 1001 p0) fun j22 =>
  lt (ur S21 1004 p0 (some j22)) fun S23 =>
  lt (nar S23 n19 1200) fun S27 => lt (n19 + 1) fun n28 =>
  lt (ur S27 1006 p0 (some n19)) fun S30 =>
  lt (ui S30 1014 p0 ((-1))) fun S31 =>
  lt (nar S31 n28 10) fun S35 => lt (n28 + 1) fun n36 =>
  lt (ur S35 1015 p0 (some n28)) fun S38 =>
  lt (nar S38 n36 1202) fun S42 => lt (n36 + 1) fun n43 =>
  lt (ur S42 1017 p0 (some n36)) fun S45 =>
  lt (nar S45 n43 80) fun S49 => lt (n43 + 1) fun n50 =>
  lt (ur S49 1019 p0 (some n43)) fun S52 =>
  lt (nar S52 n50 80) fun S56 => lt (n50 + 1) fun n57 =>
  lt (ur S56 1020 p0 (some n50)) fun S59 =>
  lt (nar S59 n57 6391) fun S63 => lt (n57 + 1) fun n64 =>
  lt (ur S63 1023 p0 (some n57)) fun S66 =>
  lt (nar S66 n64 38346) fun S70 => lt (n64 + 1) fun n71 =>
  lt (ur S70 1024 p0 (some n64)) fun S73 =>
  lt (nar S73 n71 576000) fun S77 => lt (n71 + 1) fun n78 =>
  lt (ur S77 1025 p0 (some n71)) fun S80 =>
  lt (nar S80 n78 3000) fun S84 => lt (n78 + 1) fun n85 =>
  lt (ur S84 1028 p0 (some n78)) fun S87 =>
  Option.bind (sr S87 1001 p0) fun j88 =>
  cki 1 (ln S87 j88) <|
  lt (uai S87 j88 (Int32.toNatClampNeg 1) 1) fun S90 =>
  some (S90, n85)
def f_X11_isClass (F : Nat) (S0 : St) (p0 : Nat) (p1 : Int32) : Option (Int32 × St) :=
  Option.bind (sr S0 1001 p0) fun j1 =>
  cki 3 (ln S0 j1) <|
  Option.bind (f_X11_in F S0 p1.toInt64 ((0 : Int64)) (((ai S0 j1 (Int32.toNatClampNeg 3)) - 1).toInt64)) fun z3 => lt z3.1 fun r5 => lt z3.2 fun S4 =>
  ck (r5 = 0 ∨ r5 = 1) <| some (r5, S4)
def f_X11_isUser (F : Nat) (S0 : St) (p0 : Nat) (p1 : Int32) : Option (Int32 × St) :=
  Option.bind (sr S0 1001 p0) fun j1 =>
  cki 4 (ln S0 j1) <|
  Option.bind (f_X11_in F S0 p1.toInt64 ((0 : Int64)) (((ai S0 j1 (Int32.toNatClampNeg 4)) - 1).toInt64)) fun z3 => lt z3.1 fun r5 => lt z3.2 fun S4 =>
  ck (r5 = 0 ∨ r5 = 1) <| some (r5, S4)
def f_X11_isHold (F : Nat) (S0 : St) (p0 : Nat) (p1 : Int32) : Option (Int32 × St) :=
  Option.bind (sr S0 1001 p0) fun j1 =>
  cki 6 (ln S0 j1) <|
  Option.bind (f_X11_in F S0 p1.toInt64 ((0 : Int64)) (((ai S0 j1 (Int32.toNatClampNeg 6)) - 1).toInt64)) fun z3 => lt z3.1 fun r5 => lt z3.2 fun S4 =>
  ck (r5 = 0 ∨ r5 = 1) <| some (r5, S4)
def f_X11_isMessage (F : Nat) (S0 : St) (p0 : Nat) (p1 : Int32) : Option (Int32 × St) :=
  Option.bind (sr S0 1001 p0) fun j1 =>
  cki 7 (ln S0 j1) <|
  Option.bind (f_X11_in F S0 p1.toInt64 ((0 : Int64)) (((ai S0 j1 (Int32.toNatClampNeg 7)) - 1).toInt64)) fun z3 => lt z3.1 fun r5 => lt z3.2 fun S4 =>
  ck (r5 = 0 ∨ r5 = 1) <| some (r5, S4)
def f_X11_classValue (F : Nat) (S0 : St) (p0 : Nat) (p1 : Int32) (p2 : Int32) : Option (Int32 × St) :=
  Option.bind (sr S0 1001 p0) fun j1 =>
  cki ((11 + (9 * p1)) + p2) (ln S0 j1) <|
  some (ai S0 j1 (Int32.toNatClampNeg ((11 + (9 * p1)) + p2)), S0)
def f_X11_holdValue (F : Nat) (S0 : St) (p0 : Nat) (p1 : Int32) (p2 : Int32) : Option (Int32 × St) :=
  Option.bind (sr S0 1001 p0) fun j1 =>
  cki ((205 + (21 * p1)) + p2) (ln S0 j1) <|
  some (ai S0 j1 (Int32.toNatClampNeg ((205 + (21 * p1)) + p2)), S0)
def f_X11_messageValue (F : Nat) (S0 : St) (p0 : Nat) (p1 : Int32) (p2 : Int32) : Option (Int32 × St) :=
  Option.bind (sr S0 1001 p0) fun j1 =>
  cki ((331 + (7 * p1)) + p2) (ln S0 j1) <|
  some (ai S0 j1 (Int32.toNatClampNeg ((331 + (7 * p1)) + p2)), S0)
def f_X11_refAt (F : Nat) (S0 : St) (p0 : Int32) (p1 : Int32) : Option (Int32 × St) :=
  some (1171 + (3 * ((10 * p0) + p1)), S0)
def f_X11_stateOf (F : Nat) (S0 : St) (p0 : Nat) (p1 : Int32) (p2 : Int32) : Option (Int32 × St) :=
  Option.bind (sr S0 1001 p0) fun j1 =>
  Option.bind (f_X11_refAt F S0 p1 p2) fun z2 => lt z2.1 fun r4 => lt z2.2 fun S3 =>
  cki (r4 + 0) (ln S3 j1) <|
  some (ai S3 j1 (Int32.toNatClampNeg (r4 + 0)), S3)
def f_X11_isRef (F : Nat) (S0 : St) (p0 : Nat) (p1 : Int32) (p2 : Int32) : Option (Int32 × St) :=
  Option.bind (f_X11_isMessage F S0 p0 p1) fun z1 => lt z1.1 fun r3 => lt z1.2 fun S2 =>
  if r3 = 0 then
  (some (0, S2))
  else
  (Option.bind (f_X11_isUser F S2 p0 p2) fun z6 => lt z6.1 fun r8 => lt z6.2 fun S7 =>
  if r8 = 0 then
  (some (0, S7))
  else
  (Option.bind (f_X11_stateOf F S7 p0 p1 p2) fun z11 => lt z11.1 fun r13 => lt z11.2 fun S12 =>
  if r13 = ((-1)) then
  (some (0, S12))
  else
  (some (1, S12))))
def f_X11_isLive (F : Nat) (S0 : St) (p0 : Nat) (p1 : Int32) (p2 : Int32) : Option (Int32 × St) :=
  Option.bind (f_X11_stateOf F S0 p0 p1 p2) fun z1 => lt z1.1 fun r3 => lt z1.2 fun S2 =>
  if ¬ r3 = 0 then
  (some (0, S2))
  else
  (some (1, S2))
def f_X11_isHidden (F : Nat) (S0 : St) (p0 : Nat) (p1 : Int32) (p2 : Int32) : Option (Int32 × St) :=
  Option.bind (f_X11_stateOf F S0 p0 p1 p2) fun z1 => lt z1.1 fun r3 => lt z1.2 fun S2 =>
  Option.bind (f_X11_in F S2 r3.toInt64 ((1 : Int64)) (((2) : Int64))) fun z5 => lt z5.1 fun r7 => lt z5.2 fun S6 =>
  ck (r7 = 0 ∨ r7 = 1) <| some (r7, S6)
def f_X11_partValue (F : Nat) (S0 : St) (p0 : Nat) (p1 : Int32) (p2 : Int32) : Option (Int32 × St) :=
  Option.bind (sr S0 1001 p0) fun j1 =>
  cki ((4771 + (3 * p1)) + p2) (ln S0 j1) <|
  some (ai S0 j1 (Int32.toNatClampNeg ((4771 + (3 * p1)) + p2)), S0)
def f_X11_isStored (F : Nat) (S0 : St) (p0 : Nat) (p1 : Int32) : Option (Int32 × St) :=
  Option.bind (sr S0 1001 p0) fun j1 =>
  cki 8 (ln S0 j1) <|
  Option.bind (f_X11_in F S0 p1.toInt64 ((0 : Int64)) (((ai S0 j1 (Int32.toNatClampNeg 8)) - 1).toInt64)) fun z3 => lt z3.1 fun r5 => lt z3.2 fun S4 =>
  if r5 = 0 then
  (some (0, S4))
  else
  (Option.bind (f_X11_partValue F S4 p0 p1 ((1 : Int32))) fun z8 => lt z8.1 fun r10 => lt z8.2 fun S9 =>
  if ¬ r10 = 1 then
  (some (0, S9))
  else
  (some (1, S9)))
def f_X11_isDead (F : Nat) (S0 : St) (p0 : Nat) (p1 : Int32) : Option (Int32 × St) :=
  Option.bind (f_X11_partValue F S0 p0 p1 ((2 : Int32))) fun z1 => lt z1.1 fun r3 => lt z1.2 fun S2 =>
  if r3 = ((-1)) then
  (some (0, S2))
  else
  (some (1, S2))
def f_X11_log_L66 (F : Nat) (S0 : St) (v0 : Nat) (v1 : Int32) (v2 : Int32) : Option (St) :=
  Option.bind (sr S0 1001 v0) fun j1 =>
  cki 9 (ln S0 j1) <|
  lt (6211 + (3 * (ai S0 j1 (Int32.toNatClampNeg 9)))) fun x3 =>
  Option.bind (sr S0 1001 v0) fun j4 =>
  Option.bind (sr S0 1001 v0) fun j5 =>
  cki 2 (ln S0 j5) <|
  cki x3 (ln S0 j4) <|
  lt (uai S0 j4 (Int32.toNatClampNeg x3) (ai S0 j5 (Int32.toNatClampNeg 2))) fun S8 =>
  Option.bind (sr S8 1001 v0) fun j9 =>
  cki (x3 + 1) (ln S8 j9) <|
  lt (uai S8 j9 (Int32.toNatClampNeg (x3 + 1)) v1) fun S11 =>
  Option.bind (sr S11 1001 v0) fun j12 =>
  cki (x3 + 2) (ln S11 j12) <|
  lt (uai S11 j12 (Int32.toNatClampNeg (x3 + 2)) v2) fun S14 =>
  Option.bind (sr S14 1001 v0) fun j15 =>
  cki 9 (ln S14 j15) <|
  cki 9 (ln S14 j15) <|
  lt (uai S14 j15 (Int32.toNatClampNeg 9) ((ai S14 j15 (Int32.toNatClampNeg 9)) + 1)) fun S18 =>
  some S18
def f_X11_log_L22 (F : Nat) : Nat → St → Nat → Int32 → Int32 → Int32 → Option (St)
  | 0, _, _, _, _, _ => none
  | fu + 1, S0, v0, v1, v2, v3 =>
    if 177 ≤ v3 then
    (Option.bind (sr S0 1001 v0) fun j38 =>
    cki 9 (ln S0 j38) <|
    cki 9 (ln S0 j38) <|
    lt (uai S0 j38 (Int32.toNatClampNeg 9) ((ai S0 j38 (Int32.toNatClampNeg 9)) - 1)) fun S41 =>
    f_X11_log_L66 F S41 v0 v1 v2)
    else
    (Option.bind (sr S0 1001 v0) fun j42 =>
    Option.bind (sr S0 1001 v0) fun j43 =>
    cki (6214 + v3) (ln S0 j43) <|
    cki (6211 + v3) (ln S0 j42) <|
    lt (uai S0 j42 (Int32.toNatClampNeg (6211 + v3)) (ai S0 j43 (Int32.toNatClampNeg (6214 + v3)))) fun S46 =>
    lt (v3 + 1) fun x47 =>
    (fun a0 a1 a2 a3 a4 => f_X11_log_L22 F fu a0 a1 a2 a3 a4) S46 v0 v1 v2 x47)
def f_X11_log (F : Nat) (S0 : St) (p0 : Nat) (p1 : Int32) (p2 : Int32) : Option (St) :=
  if (si S0 1005 p0) = 0 then
  (Option.bind (sr S0 1001 p0) fun j60 =>
  cki 9 (ln S0 j60) <|
  if ¬ (ai S0 j60 (Int32.toNatClampNeg 9)) = 60 then
  (f_X11_log_L66 F S0 p0 p1 p2)
  else
  (f_X11_log_L22 F F S0 p0 p1 p2 0))
  else
  (some S0)
def f_X11_appendFour_L3 (F : Nat) : Nat → St → Nat → Int32 → Int32 → Option (St)
  | 0, _, _, _, _ => none
  | fu + 1, S0, v0, v1, v2 =>
    if v2 < 0 then
    (some S0)
    else
    (Option.bind (sr S0 1006 v0) fun j2 =>
    cki (si S0 1007 v0) (ln S0 j2) <|
    lt (uai S0 j2 (Int32.toNatClampNeg (si S0 1007 v0)) (Int32.toInt8 ((v1 >>> (v2 &&& 31)).toInt8.toInt32)).toInt32) fun S4 =>
    lt (ui S4 1007 v0 ((si S4 1007 v0) + 1)) fun S5 =>
    lt (v2 + (-8)) fun x6 =>
    (fun a0 a1 a2 a3 => f_X11_appendFour_L3 F fu a0 a1 a2 a3) S5 v0 v1 x6)
def f_X11_appendFour (F : Nat) (S0 : St) (p0 : Nat) (p1 : Int32) : Option (St) :=
  f_X11_appendFour_L3 F F S0 p0 p1 24
def f_X11_append_L19 (F : Nat) (S0 : St) (v0 : Nat) (v1 : Int32) (v2 : Int32) (v3 : Int32) (v4 : Int32) (v5 : Int32) (s0 : Int32) (s1 : Nat) : Option (Int32 × St) :=
  Option.bind (f_X11_passes F S0 s1 s0) fun z1 => lt z1.1 fun r3 => lt z1.2 fun S2 =>
  if ¬ r3 = 0 then
  (Option.bind (f_X11_appendFour F S2 v0 v1) fun S7 =>
  Option.bind (f_X11_appendFour F S7 v0 v2) fun S11 =>
  Option.bind (f_X11_appendFour F S11 v0 v3) fun S15 =>
  Option.bind (f_X11_appendFour F S15 v0 v4) fun S19 =>
  Option.bind (f_X11_appendFour F S19 v0 v5) fun S23 =>
  some (si S23 1007 v0, S23))
  else
  (some (0, S2))
def f_X11_append (F : Nat) (S0 : St) (p0 : Nat) (p1 : Int32) (p2 : Int32) (p3 : Int32) (p4 : Int32) (p5 : Int32) : Option (Int32 × St) :=
  if 1200 < ((si S0 1007 p0) + 20) then
  (f_X11_append_L19 F S0 p0 p1 p2 p3 p4 p5 0 p0)
  else
  (f_X11_append_L19 F S0 p0 p1 p2 p3 p4 p5 1 p0)
def f_X11_truncate (F : Nat) (S0 : St) (p0 : Nat) (p1 : Int32) : Option (St) :=
  Option.bind (f_X11_in F S0 p1.toInt64 ((0 : Int64)) ((si S0 1007 p0).toInt64)) fun z1 => lt z1.1 fun r3 => lt z1.2 fun S2 =>
  Option.bind (f_X11_passes F S2 p0 r3) fun z5 => lt z5.1 fun r7 => lt z5.2 fun S6 =>
  if r7 = 0 then
  (some S6)
  else
  (lt (ui S6 1007 p0 p1) fun S10 =>
  some S10)
def f_X11_good (F : Nat) (S0 : St) (p0 : Nat) : Option (Int32 × St) :=
  if ¬ (si S0 1013 p0) = 0 then
  (some (0, S0))
  else
  (some (1, S0))
def f_X11_errs (F : Nat) (S0 : St) (p0 : Nat) (p1 : Int32) : Option (St) :=
  Option.bind (f_X11_good F S0 p0) fun z1 => lt z1.1 fun r3 => lt z1.2 fun S2 =>
  if ¬ r3 = 0 then
  (lt (ui S2 1013 p0 p1) fun S6 =>
  lt (ui S6 1014 p0 (si S6 1010 p0)) fun S7 =>
  some S7)
  else
  (some S2)
def f_X11_byteAt (F : Nat) (S0 : St) (p0 : Nat) (p1 : Int32) : Option (Int32 × St) :=
  if (si S0 1008 p0) ≤ p1 then
  (some ((-1), S0))
  else
  (Option.bind (sr S0 1006 p0) fun j2 =>
  cki p1 (ln S0 j2) <|
  some ((ai S0 j2 (Int32.toNatClampNeg p1)) &&& 255, S0))
def f_X11_scan_L144 (F : Nat) : Nat → St → Nat → Option (St)
  | 0, _, _ => none
  | fu + 1, S0, v0 =>
    Option.bind (f_X11_byteAt F S0 v0 (si S0 1009 v0)) fun z1 => lt z1.1 fun r3 => lt z1.2 fun S2 =>
    Option.bind (f_X11_in F S2 r3.toInt64 (((48) : Int64)) (((57) : Int64))) fun z5 => lt z5.1 fun r7 => lt z5.2 fun S6 =>
    if r7 = 0 then
    (lt (ui S6 1011 v0 2) fun S10 =>
    some S10)
    else
    (Option.bind (f_X11_byteAt F S6 v0 (si S6 1009 v0)) fun z11 => lt z11.1 fun r13 => lt z11.2 fun S12 =>
    lt (ui S12 1012 v0 (if (((10 * (si S6 1012 v0)) + r13) - 48) < (999999 : Int32) then (((10 * (si S6 1012 v0)) + r13) - 48) else (999999 : Int32))) fun S15 =>
    lt (ui S15 1009 v0 ((si S15 1009 v0) + 1)) fun S16 =>
    (fun a0 a1 => f_X11_scan_L144 F fu a0 a1) S16 v0)
def f_X11_scan_L83 (F : Nat) : Nat → St → Nat → Option (St)
  | 0, _, _ => none
  | fu + 1, S0, v0 =>
    Option.bind (f_X11_byteAt F S0 v0 (si S0 1009 v0)) fun z33 => lt z33.1 fun r35 => lt z33.2 fun S34 =>
    Option.bind (f_X11_in F S34 r35.toInt64 (((97) : Int64)) (((122) : Int64))) fun z37 => lt z37.1 fun r39 => lt z37.2 fun S38 =>
    if r39 = 0 then
    (lt (ui S38 1011 v0 1) fun S42 =>
    some S42)
    else
    (lt (ui S38 1009 v0 ((si S38 1009 v0) + 1)) fun S43 =>
    (fun a0 a1 => f_X11_scan_L83 F fu a0 a1) S43 v0)
def f_X11_scan_L26 (F : Nat) (k0 : St → Nat → Option (St)) (S0 : St) (v0 : Nat) : Option (St) :=
  lt (ui S0 1009 v0 ((si S0 1009 v0) + 1)) fun S55 =>
  k0 S55 v0
def f_X11_scan_L0 (F : Nat) : Nat → St → Nat → Option (St)
  | 0, _, _ => none
  | fu + 1, S0, v0 =>
    Option.bind (f_X11_byteAt F S0 v0 (si S0 1009 v0)) fun z57 => lt z57.1 fun r59 => lt z57.2 fun S58 =>
    if r59 = 32 then
    (f_X11_scan_L26 F (fun a0 a1 => f_X11_scan_L0 F fu a0 a1) S58 v0)
    else
    (Option.bind (f_X11_byteAt F S58 v0 (si S58 1009 v0)) fun z62 => lt z62.1 fun r64 => lt z62.2 fun S63 =>
    if ¬ r64 = 10 then
    (lt (ui S63 1010 v0 (si S63 1009 v0)) fun S67 =>
    Option.bind (f_X11_byteAt F S67 v0 (si S67 1009 v0)) fun z68 => lt z68.1 fun r70 => lt z68.2 fun S69 =>
    if ¬ r70 = ((-1)) then
    (Option.bind (f_X11_in F S69 r70.toInt64 (((97) : Int64)) (((122) : Int64))) fun z73 => lt z73.1 fun r75 => lt z73.2 fun S74 =>
    if r75 = 0 then
    (Option.bind (f_X11_in F S74 r70.toInt64 (((48) : Int64)) (((57) : Int64))) fun z78 => lt z78.1 fun r80 => lt z78.2 fun S79 =>
    if r80 = 0 then
    (lt (ui S79 1011 v0 3) fun S83 =>
    lt (ui S83 1012 v0 r70) fun S84 =>
    lt (ui S84 1009 v0 ((si S84 1009 v0) + 1)) fun S85 =>
    some S85)
    else
    (lt (ui S79 1012 v0 0) fun S86 =>
    f_X11_scan_L144 F F S86 v0))
    else
    (f_X11_scan_L83 F F S74 v0))
    else
    (lt (ui S69 1011 v0 0) fun S87 =>
    some S87))
    else
    (f_X11_scan_L26 F (fun a0 a1 => f_X11_scan_L0 F fu a0 a1) S63 v0))
def f_X11_scan (F : Nat) (S0 : St) (p0 : Nat) : Option (St) :=
  f_X11_scan_L0 F F S0 p0
def f_X11_goOn (F : Nat) (S0 : St) (p0 : Nat) : Option (St) :=
  Option.bind (f_X11_good F S0 p0) fun z1 => lt z1.1 fun r3 => lt z1.2 fun S2 =>
  if r3 = 0 then
  (some S2)
  else
  (Option.bind (f_X11_scan F S2 p0) fun S7 =>
  some S7)
def f_J0_coder_7d493 (F : Nat) (S0 : St) (p0 : Nat) : Option (Int32 × St) :=
  if (1 : Int32) = 0 then
  (some (1, S0))
  else
  (some (0, S0))
def f_J0_length_8abf5 (F : Nat) (S0 : St) (p0 : Nat) : Option (Int32 × St) :=
  Option.bind (f_J0_coder_7d493 F S0 p0) fun z1 => lt z1.1 fun r3 => lt z1.2 fun S2 =>
  some ((nI (msL.getD p0 0)) >>> (r3 &&& 31), S2)
def f_J0_isLatin1_aae02 (F : Nat) (S0 : St) (p0 : Nat) : Option (Int32 × St) :=
  if (1 : Int32) = 0 then
  (some (0, S0))
  else
  (if ¬ (0 : Int32) = 0 then
  (some (0, S0))
  else
  (some (1, S0)))
def f_J3_checkIndex_8e157 (F : Nat) (S0 : St) (p0 : Int32) (p1 : Int32) : Option (Int32 × St) :=
  if p0 < 0 then
  (none)
  else
  (if p0 < p1 then
  (some (p0, S0))
  else
  (none))
def f_J0_checkIndex_df160 (F : Nat) (S0 : St) (p0 : Int32) (p1 : Int32) : Option (St) :=
  Option.bind (f_J3_checkIndex_8e157 F S0 p0 p1) fun z2 => lt z2.1 fun r4 => lt z2.2 fun S3 =>
  some S3
def f_J1_charAt_3b067 (F : Nat) (S0 : St) (p0 : Nat) (p1 : Int32) : Option (Int32 × St) :=
  Option.bind (f_J0_checkIndex_df160 F S0 p1 (nI (msL.getD p0 0))) fun S2 =>
  cki p1 (msL.getD p0 0) <|
  ck ((((((msB.getD p0 []).getD (Int32.toNatClampNeg p1) 0) &&& 255).toUInt32 % 65536).toInt32).toUInt32.toUInt16.toUInt32.toInt32 = ((((msB.getD p0 []).getD (Int32.toNatClampNeg p1) 0) &&& 255).toUInt32 % 65536).toInt32) <| some (((((msB.getD p0 []).getD (Int32.toNatClampNeg p1) 0) &&& 255).toUInt32 % 65536).toInt32, S2)
def f_J2_length_9d52b (F : Nat) (S0 : St) (p0 : Nat) : Option (Int32 × St) :=
  some ((nI (ln S0 p0)) >>> (1 &&& 31), S0)
def f_J0_charAt_5068e (F : Nat) (S0 : St) (p0 : Nat) (p1 : Int32) : Option (Int32 × St) :=
  Option.bind (f_J0_isLatin1_aae02 F S0 p0) fun z1 => lt z1.1 fun r3 => lt z1.2 fun S2 =>
  if r3 = 0 then
  (none)
  else
  (Option.bind (f_J1_charAt_3b067 F S2 p0 p1) fun z6 => lt z6.1 fun r8 => lt z6.2 fun S7 =>
  ck (r8.toUInt32.toUInt16.toUInt32.toInt32 = r8) <| some (r8, S7))
def f_X11_isText_L75 (F : Nat) (k39 : St → Nat → Nat → Int32 → Int32 → Option (Int32 × St)) (S0 : St) (v0 : Nat) (v1 : Nat) (v3 : Int32) (s0 : Int32) : Option (Int32 × St) :=
  lt (v3 + 1) fun x1 =>
  k39 S0 v0 v1 s0 x1
def f_X11_isText_L39 (F : Nat) : Nat → St → Nat → Nat → Int32 → Int32 → Option (Int32 × St)
  | 0, _, _, _, _, _ => none
  | fu + 1, S0, v0, v1, v2, v3 =>
    Option.bind (f_J0_length_8abf5 F S0 v1) fun z3 => lt z3.1 fun r5 => lt z3.2 fun S4 =>
    if r5 ≤ v3 then
    (ck (v2 = 0 ∨ v2 = 1) <| some (v2, S4))
    else
    (if v2 = 0 then
    (ck (v2 = 0 ∨ v2 = 1) <| some (v2, S4))
    else
    (Option.bind (sr S4 1006 v0) fun j11 =>
    cki ((si S4 1010 v0) + v3) (ln S4 j11) <|
    Option.bind (f_J0_charAt_5068e F S4 v1 v3) fun z13 => lt z13.1 fun r15 => lt z13.2 fun S14 =>
    if ¬ (ai S4 j11 (Int32.toNatClampNeg ((si S4 1010 v0) + v3))) = r15 then
    (f_X11_isText_L75 F (fun a0 a1 a2 a3 a4 => f_X11_isText_L39 F fu a0 a1 a2 a3 a4) S14 v0 v1 v3 0)
    else
    (f_X11_isText_L75 F (fun a0 a1 a2 a3 a4 => f_X11_isText_L39 F fu a0 a1 a2 a3 a4) S14 v0 v1 v3 1)))
def f_X11_isText_L36 (F : Nat) (S0 : St) (v0 : Nat) (v1 : Nat) (s0 : Int32) : Option (Int32 × St) :=
  f_X11_isText_L39 F F S0 v0 v1 s0 0
def f_X11_isText_L35 (F : Nat) (S0 : St) (v0 : Nat) (v1 : Nat) : Option (Int32 × St) :=
  f_X11_isText_L36 F S0 v0 v1 0
def f_X11_isText (F : Nat) (S0 : St) (p0 : Nat) (p1 : Nat) : Option (Int32 × St) :=
  Option.bind (f_X11_good F S0 p0) fun z33 => lt z33.1 fun r35 => lt z33.2 fun S34 =>
  if r35 = 0 then
  (f_X11_isText_L35 F S34 p0 p1)
  else
  (if ¬ (si S34 1011 p0) = 1 then
  (f_X11_isText_L35 F S34 p0 p1)
  else
  (Option.bind (f_J0_length_8abf5 F S34 p1) fun z39 => lt z39.1 fun r41 => lt z39.2 fun S40 =>
  if ¬ ((si S34 1009 p0) - (si S34 1010 p0)) = r41 then
  (f_X11_isText_L35 F S40 p0 p1)
  else
  (f_X11_isText_L36 F S40 p0 p1 1)))
def f_X11_isSymbol (F : Nat) (S0 : St) (p0 : Nat) (p1 : Int32) : Option (Int32 × St) :=
  Option.bind (f_X11_good F S0 p0) fun z1 => lt z1.1 fun r3 => lt z1.2 fun S2 =>
  if r3 = 0 then
  (some (0, S2))
  else
  (if ¬ (si S2 1011 p0) = 3 then
  (some (0, S2))
  else
  (if ¬ (si S2 1012 p0) = p1 then
  (some (0, S2))
  else
  (some (1, S2))))
def f_X11_isKeyword_L77 (F : Nat) (S0 : St) (v0 : Nat) (s0 : Int32) : Option (Int32 × St) :=
  if ¬ s0 = 0 then
  (some (1, S0))
  else
  (Option.bind (f_X11_isText F S0 v0 8) fun z2 => lt z2.1 fun r4 => lt z2.2 fun S3 =>
  if ¬ r4 = 0 then
  (some (1, S3))
  else
  (Option.bind (f_X11_isText F S3 v0 9) fun z7 => lt z7.1 fun r9 => lt z7.2 fun S8 =>
  if ¬ r9 = 0 then
  (some (1, S8))
  else
  (Option.bind (f_X11_isText F S8 v0 10) fun z12 => lt z12.1 fun r14 => lt z12.2 fun S13 =>
  if ¬ r14 = 0 then
  (some (1, S13))
  else
  (Option.bind (f_X11_isText F S13 v0 11) fun z17 => lt z17.1 fun r19 => lt z17.2 fun S18 =>
  if ¬ r19 = 0 then
  (some (1, S18))
  else
  (Option.bind (f_X11_isText F S18 v0 12) fun z22 => lt z22.1 fun r24 => lt z22.2 fun S23 =>
  if ¬ r24 = 0 then
  (some (1, S23))
  else
  (Option.bind (f_X11_isText F S23 v0 13) fun z27 => lt z27.1 fun r29 => lt z27.2 fun S28 =>
  if ¬ r29 = 0 then
  (some (1, S28))
  else
  (Option.bind (f_X11_isText F S28 v0 14) fun z32 => lt z32.1 fun r34 => lt z32.2 fun S33 =>
  if r34 = 0 then
  (some (0, S33))
  else
  (some (1, S33)))))))))
def f_X11_isKeyword_L72 (F : Nat) (S0 : St) (v0 : Nat) : Option (Int32 × St) :=
  f_X11_isKeyword_L77 F S0 v0 1
def f_X11_isKeyword (F : Nat) (S0 : St) (p0 : Nat) : Option (Int32 × St) :=
  Option.bind (f_X11_isText F S0 p0 0) fun z73 => lt z73.1 fun r75 => lt z73.2 fun S74 =>
  if ¬ r75 = 0 then
  (f_X11_isKeyword_L72 F S74 p0)
  else
  (Option.bind (f_X11_isText F S74 p0 1) fun z78 => lt z78.1 fun r80 => lt z78.2 fun S79 =>
  if ¬ r80 = 0 then
  (f_X11_isKeyword_L72 F S79 p0)
  else
  (Option.bind (f_X11_isText F S79 p0 2) fun z83 => lt z83.1 fun r85 => lt z83.2 fun S84 =>
  if ¬ r85 = 0 then
  (f_X11_isKeyword_L72 F S84 p0)
  else
  (Option.bind (f_X11_isText F S84 p0 3) fun z88 => lt z88.1 fun r90 => lt z88.2 fun S89 =>
  if ¬ r90 = 0 then
  (f_X11_isKeyword_L72 F S89 p0)
  else
  (Option.bind (f_X11_isText F S89 p0 4) fun z93 => lt z93.1 fun r95 => lt z93.2 fun S94 =>
  if ¬ r95 = 0 then
  (f_X11_isKeyword_L72 F S94 p0)
  else
  (Option.bind (f_X11_isText F S94 p0 5) fun z98 => lt z98.1 fun r100 => lt z98.2 fun S99 =>
  if ¬ r100 = 0 then
  (f_X11_isKeyword_L72 F S99 p0)
  else
  (Option.bind (f_X11_isText F S99 p0 6) fun z103 => lt z103.1 fun r105 => lt z103.2 fun S104 =>
  if ¬ r105 = 0 then
  (f_X11_isKeyword_L72 F S104 p0)
  else
  (Option.bind (f_X11_isText F S104 p0 7) fun z108 => lt z108.1 fun r110 => lt z108.2 fun S109 =>
  if r110 = 0 then
  (f_X11_isKeyword_L77 F S109 p0 0)
  else
  (f_X11_isKeyword_L72 F S109 p0))))))))
def f_X11_word_L13 (F : Nat) (S0 : St) (v0 : Nat) : Option (St) :=
  Option.bind (f_X11_goOn F S0 v0) fun S2 =>
  some S2
def f_X11_word (F : Nat) (S0 : St) (p0 : Nat) (p1 : Nat) : Option (St) :=
  Option.bind (f_X11_isText F S0 p0 p1) fun z9 => lt z9.1 fun r11 => lt z9.2 fun S10 =>
  if ¬ r11 = 0 then
  (f_X11_word_L13 F S10 p0)
  else
  (Option.bind (f_X11_errs F S10 p0 ((1 : Int32))) fun S15 =>
  f_X11_word_L13 F S15 p0)
def f_X11_number_L62 (F : Nat) (S0 : St) (v0 : Nat) (s0 : Int32) : Option (Int32 × St) :=
  Option.bind (f_X11_goOn F S0 v0) fun S2 =>
  some (s0, S2)
def f_X11_number_L47 (F : Nat) (S0 : St) (v0 : Nat) (v1 : Int32) : Option (Int32 × St) :=
  Option.bind (f_X11_good F S0 v0) fun z9 => lt z9.1 fun r11 => lt z9.2 fun S10 =>
  if r11 = 0 then
  (f_X11_number_L62 F S10 v0 v1)
  else
  (f_X11_number_L62 F S10 v0 (si S10 1012 v0))
def f_X11_number_L20 (F : Nat) (S0 : St) (v0 : Nat) (v1 : Int32) (v2 : Int32) : Option (Int32 × St) :=
  Option.bind (f_X11_good F S0 v0) fun z19 => lt z19.1 fun r21 => lt z19.2 fun S20 =>
  if r21 = 0 then
  (f_X11_number_L47 F S20 v0 v1)
  else
  (Option.bind (f_X11_in F S20 ((si S20 1012 v0).toInt64) v1.toInt64 v2.toInt64) fun z24 => lt z24.1 fun r26 => lt z24.2 fun S25 =>
  if ¬ r26 = 0 then
  (f_X11_number_L47 F S25 v0 v1)
  else
  (Option.bind (f_X11_errs F S25 v0 ((2 : Int32))) fun S30 =>
  f_X11_number_L47 F S30 v0 v1))
def f_X11_number (F : Nat) (S0 : St) (p0 : Nat) (p1 : Int32) (p2 : Int32) : Option (Int32 × St) :=
  Option.bind (f_X11_good F S0 p0) fun z47 => lt z47.1 fun r49 => lt z47.2 fun S48 =>
  if r49 = 0 then
  (f_X11_number_L20 F S48 p0 p1 p2)
  else
  (if (si S48 1011 p0) = 2 then
  (f_X11_number_L20 F S48 p0 p1 p2)
  else
  (Option.bind (f_X11_errs F S48 p0 ((1 : Int32))) fun S54 =>
  f_X11_number_L20 F S54 p0 p1 p2))
def f_X11_numberAfter (F : Nat) (S0 : St) (p0 : Nat) (p1 : Nat) (p2 : Int32) (p3 : Int32) : Option (Int32 × St) :=
  Option.bind (f_X11_word F S0 p0 p1) fun S2 =>
  Option.bind (f_X11_number F S2 p0 p2 p3) fun z5 => lt z5.1 fun r7 => lt z5.2 fun S6 =>
  some (r7, S6)
def f_X11_letter (F : Nat) (S0 : St) (p0 : Nat) (p1 : Int32) : Option (Int32 × St) :=
  if ((si S0 1009 p0) - (si S0 1010 p0)) ≤ p1 then
  (some (0, S0))
  else
  (Option.bind (sr S0 1006 p0) fun j2 =>
  cki ((si S0 1010 p0) + p1) (ln S0 j2) <|
  some (ai S0 j2 (Int32.toNatClampNeg ((si S0 1010 p0) + p1)), S0))
def f_X11_named_L84 (F : Nat) (k3 : St → Nat → Int32 → Int32 → Int32 → Int32 → Int32 → Option (Int32 × St)) (S0 : St) (v0 : Nat) (v1 : Int32) (v2 : Int32) (v3 : Int32) (v4 : Int32) (v5 : Int32) (v6 : Int32) : Option (Int32 × St) :=
  if v6 = 0 then
  (lt (v5 + 1) fun x2 =>
  k3 S0 v0 v1 v2 v3 v4 x2)
  else
  (some (v5, S0))
def f_X11_named_L76 (F : Nat) (k3 : St → Nat → Int32 → Int32 → Int32 → Int32 → Int32 → Option (Int32 × St)) (k34 : St → Nat → Int32 → Int32 → Int32 → Int32 → Int32 → Int32 → Int32 → Option (Int32 × St)) (S0 : St) (v0 : Nat) (v1 : Int32) (v2 : Int32) (v3 : Int32) (v4 : Int32) (v5 : Int32) (v7 : Int32) (s0 : Int32) : Option (Int32 × St) :=
  lt (v7 + 1) fun x5 =>
  k34 S0 v0 v1 v2 v3 v4 v5 s0 x5
def f_X11_named_L34 (F : Nat) (k3 : St → Nat → Int32 → Int32 → Int32 → Int32 → Int32 → Option (Int32 × St)) : Nat → St → Nat → Int32 → Int32 → Int32 → Int32 → Int32 → Int32 → Int32 → Option (Int32 × St)
  | 0, _, _, _, _, _, _, _, _, _ => none
  | fu + 1, S0, v0, v1, v2, v3, v4, v5, v6, v7 =>
    if 6 ≤ v7 then
    (f_X11_named_L84 F k3 S0 v0 v1 v2 v3 v4 v5 v6)
    else
    (if v6 = 0 then
    (f_X11_named_L84 F k3 S0 v0 v1 v2 v3 v4 v5 v6)
    else
    (Option.bind (sr S0 1004 v0) fun j9 =>
    cki (((v1 + (v2 * v5)) + v3) + v7) (ln S0 j9) <|
    Option.bind (f_X11_letter F S0 v0 v7) fun z11 => lt z11.1 fun r13 => lt z11.2 fun S12 =>
    if ¬ (ai S0 j9 (Int32.toNatClampNeg (((v1 + (v2 * v5)) + v3) + v7))) = r13 then
    (f_X11_named_L76 F k3 (fun a0 a1 a2 a3 a4 a5 a6 a7 a8 => f_X11_named_L34 F k3 fu a0 a1 a2 a3 a4 a5 a6 a7 a8) S12 v0 v1 v2 v3 v4 v5 v7 0)
    else
    (f_X11_named_L76 F k3 (fun a0 a1 a2 a3 a4 a5 a6 a7 a8 => f_X11_named_L34 F k3 fu a0 a1 a2 a3 a4 a5 a6 a7 a8) S12 v0 v1 v2 v3 v4 v5 v7 1)))
def f_X11_named_L29 (F : Nat) (k3 : St → Nat → Int32 → Int32 → Int32 → Int32 → Int32 → Option (Int32 × St)) (S0 : St) (v0 : Nat) (v1 : Int32) (v2 : Int32) (v3 : Int32) (v4 : Int32) (v5 : Int32) (s0 : Int32) : Option (Int32 × St) :=
  f_X11_named_L34 F k3 F S0 v0 v1 v2 v3 v4 v5 s0 0
def f_X11_named_L3 (F : Nat) : Nat → St → Nat → Int32 → Int32 → Int32 → Int32 → Int32 → Option (Int32 × St)
  | 0, _, _, _, _, _, _, _ => none
  | fu + 1, S0, v0, v1, v2, v3, v4, v5 =>
    if v4 ≤ v5 then
    (some ((-1), S0))
    else
    (if 6 < ((si S0 1009 v0) - (si S0 1010 v0)) then
    (f_X11_named_L29 F (fun a0 a1 a2 a3 a4 a5 a6 => f_X11_named_L3 F fu a0 a1 a2 a3 a4 a5 a6) S0 v0 v1 v2 v3 v4 v5 0)
    else
    (f_X11_named_L29 F (fun a0 a1 a2 a3 a4 a5 a6 => f_X11_named_L3 F fu a0 a1 a2 a3 a4 a5 a6) S0 v0 v1 v2 v3 v4 v5 1))
def f_X11_named (F : Nat) (S0 : St) (p0 : Nat) (p1 : Int32) (p2 : Int32) (p3 : Int32) (p4 : Int32) : Option (Int32 × St) :=
  f_X11_named_L3 F F S0 p0 p1 p2 p3 p4 0
def f_X11_kindNamed (F : Nat) (S0 : St) (p0 : Nat) (p1 : Int32) : Option (Int32 × St) :=
  if ¬ p1 = 0 then
  (if ¬ p1 = 1 then
  (if ¬ p1 = 2 then
  (Option.bind (sr S0 1004 p0) fun j4 =>
  cki 6 (ln S0 j4) <|
  Option.bind (f_X11_named F S0 p0 ((205 : Int32)) ((21 : Int32)) ((15 : Int32)) (ai S0 j4 (Int32.toNatClampNeg 6))) fun z6 => lt z6.1 fun r8 => lt z6.2 fun S7 =>
  some (r8, S7))
  else
  (Option.bind (sr S0 1004 p0) fun j10 =>
  cki 5 (ln S0 j10) <|
  Option.bind (f_X11_named F S0 p0 ((163 : Int32)) ((7 : Int32)) ((1 : Int32)) (ai S0 j10 (Int32.toNatClampNeg 5))) fun z12 => lt z12.1 fun r14 => lt z12.2 fun S13 =>
  some (r14, S13)))
  else
  (Option.bind (sr S0 1004 p0) fun j16 =>
  cki 4 (ln S0 j16) <|
  Option.bind (f_X11_named F S0 p0 ((83 : Int32)) ((8 : Int32)) ((2 : Int32)) (ai S0 j16 (Int32.toNatClampNeg 4))) fun z18 => lt z18.1 fun r20 => lt z18.2 fun S19 =>
  some (r20, S19)))
  else
  (Option.bind (sr S0 1004 p0) fun j22 =>
  cki 3 (ln S0 j22) <|
  Option.bind (f_X11_named F S0 p0 ((11 : Int32)) ((9 : Int32)) ((3 : Int32)) (ai S0 j22 (Int32.toNatClampNeg 3))) fun z24 => lt z24.1 fun r26 => lt z24.2 fun S25 =>
  some (r26, S25))
def f_X11_checkName_L36 (F : Nat) (S0 : St) (v0 : Nat) : Option (St) :=
  Option.bind (f_X11_errs F S0 v0 ((1 : Int32))) fun S2 =>
  some S2
def f_X11_checkName (F : Nat) (S0 : St) (p0 : Nat) : Option (St) :=
  Option.bind (f_X11_good F S0 p0) fun z9 => lt z9.1 fun r11 => lt z9.2 fun S10 =>
  if r11 = 0 then
  (some S10)
  else
  (if ¬ (si S10 1011 p0) = 1 then
  (f_X11_checkName_L36 F S10 p0)
  else
  (if 6 < ((si S10 1009 p0) - (si S10 1010 p0)) then
  (f_X11_checkName_L36 F S10 p0)
  else
  (Option.bind (f_X11_isKeyword F S10 p0) fun z16 => lt z16.1 fun r18 => lt z16.2 fun S17 =>
  if r18 = 0 then
  (some S17)
  else
  (f_X11_checkName_L36 F S17 p0))))
def f_X11_newName_L37 (F : Nat) : Nat → St → Nat → Int32 → Int32 → Option (St)
  | 0, _, _, _, _ => none
  | fu + 1, S0, v0, v3, v4 =>
    if 6 ≤ v4 then
    (Option.bind (f_X11_goOn F S0 v0) fun S3 =>
    some S3)
    else
    (Option.bind (sr S0 1004 v0) fun j6 =>
    Option.bind (f_X11_letter F S0 v0 v4) fun z7 => lt z7.1 fun r9 => lt z7.2 fun S8 =>
    cki (v3 + v4) (ln S8 j6) <|
    lt (uai S8 j6 (Int32.toNatClampNeg (v3 + v4)) r9) fun S12 =>
    lt (v4 + 1) fun x13 =>
    (fun a0 a1 a2 a3 => f_X11_newName_L37 F fu a0 a1 a2 a3) S12 v0 v3 x13)
def f_X11_newName_L34 (F : Nat) (S0 : St) (v0 : Nat) (v3 : Int32) : Option (St) :=
  f_X11_newName_L37 F F S0 v0 v3 0
def f_X11_newName_L29 (F : Nat) (S0 : St) (v0 : Nat) (v3 : Int32) : Option (St) :=
  Option.bind (f_X11_errs F S0 v0 ((3 : Int32))) fun S28 =>
  f_X11_newName_L34 F S28 v0 v3
def f_X11_newName (F : Nat) (S0 : St) (p0 : Nat) (p1 : Int32) (p2 : Int32) (p3 : Int32) : Option (St) :=
  Option.bind (f_X11_checkName F S0 p0) fun S36 =>
  Option.bind (f_X11_good F S36 p0) fun z39 => lt z39.1 fun r41 => lt z39.2 fun S40 =>
  if r41 = 0 then
  (f_X11_newName_L34 F S40 p0 p3)
  else
  (Option.bind (f_X11_kindNamed F S40 p0 p1) fun z44 => lt z44.1 fun r46 => lt z44.2 fun S45 =>
  if ¬ r46 = ((-1)) then
  (f_X11_newName_L29 F S45 p0 p3)
  else
  (Option.bind (f_X11_kindNamed F S45 p0 p2) fun z49 => lt z49.1 fun r51 => lt z49.2 fun S50 =>
  if r51 = ((-1)) then
  (f_X11_newName_L34 F S50 p0 p3)
  else
  (f_X11_newName_L29 F S50 p0 p3)))
def f_X11_oldName_L31 (F : Nat) (S0 : St) (v0 : Nat) (v2 : Int32) : Option (Int32 × St) :=
  Option.bind (f_X11_goOn F S0 v0) fun S2 =>
  some (v2, S2)
def f_X11_oldName_L20 (F : Nat) (S0 : St) (v0 : Nat) (s0 : Int32) : Option (Int32 × St) :=
  if ¬ s0 = ((-1)) then
  (f_X11_oldName_L31 F S0 v0 s0)
  else
  (Option.bind (f_X11_errs F S0 v0 ((3 : Int32))) fun S11 =>
  f_X11_oldName_L31 F S11 v0 s0)
def f_X11_oldName (F : Nat) (S0 : St) (p0 : Nat) (p1 : Int32) : Option (Int32 × St) :=
  Option.bind (f_X11_checkName F S0 p0) fun S20 =>
  Option.bind (f_X11_good F S20 p0) fun z23 => lt z23.1 fun r25 => lt z23.2 fun S24 =>
  if r25 = 0 then
  (f_X11_oldName_L20 F S24 p0 0)
  else
  (Option.bind (f_X11_kindNamed F S24 p0 p1) fun z28 => lt z28.1 fun r30 => lt z28.2 fun S29 =>
  f_X11_oldName_L20 F S29 p0 r30)
def f_X11_begins_L9 (F : Nat) (S0 : St) (v0 : Nat) : Option (Int32 × St) :=
  Option.bind (f_X11_goOn F S0 v0) fun S2 =>
  Option.bind (f_X11_good F S2 v0) fun z5 => lt z5.1 fun r7 => lt z5.2 fun S6 =>
  ck (r7 = 0 ∨ r7 = 1) <| some (r7, S6)
def f_X11_begins (F : Nat) (S0 : St) (p0 : Nat) (p1 : Int32) : Option (Int32 × St) :=
  if ¬ p1 = 0 then
  (f_X11_begins_L9 F S0 p0)
  else
  (Option.bind (f_X11_errs F S0 p0 ((4 : Int32))) fun S21 =>
  f_X11_begins_L9 F S21 p0)
def f_X11_parseClass_L161 (F : Nat) (S0 : St) (v0 : Nat) : Option (St) :=
  Option.bind (sr S0 1004 v0) fun j1 =>
  cki 3 (ln S0 j1) <|
  cki 3 (ln S0 j1) <|
  lt (uai S0 j1 (Int32.toNatClampNeg 3) ((ai S0 j1 (Int32.toNatClampNeg 3)) + 1)) fun S4 =>
  some S4
def f_X11_parseClass_L126 (F : Nat) (S0 : St) (v0 : Nat) (v1 : Int32) : Option (St) :=
  Option.bind (sr S0 1004 v0) fun j9 =>
  cki (v1 + 2) (ln S0 j9) <|
  lt (uai S0 j9 (Int32.toNatClampNeg (v1 + 2)) ((-1))) fun S11 =>
  Option.bind (f_X11_isText F S11 v0 7) fun z12 => lt z12.1 fun r14 => lt z12.2 fun S13 =>
  if r14 = 0 then
  (f_X11_parseClass_L161 F S13 v0)
  else
  (Option.bind (f_X11_goOn F S13 v0) fun S18 =>
  Option.bind (sr S18 1004 v0) fun j21 =>
  Option.bind (f_X11_oldName F S18 v0 ((0 : Int32))) fun z22 => lt z22.1 fun r24 => lt z22.2 fun S23 =>
  cki (v1 + 2) (ln S23 j21) <|
  lt (uai S23 j21 (Int32.toNatClampNeg (v1 + 2)) r24) fun S27 =>
  f_X11_parseClass_L161 F S27 v0)
def f_X11_parseClass_L90 (F : Nat) (S0 : St) (v0 : Nat) (v1 : Int32) (s0 : Int32) (s1 : Int32) (s2 : Nat) : Option (St) :=
  cki s1 (ln S0 s2) <|
  lt (uai S0 s2 (Int32.toNatClampNeg s1) s0) fun S48 =>
  Option.bind (sr S48 1004 v0) fun j49 =>
  cki (v1 + 1) (ln S48 j49) <|
  lt (uai S48 j49 (Int32.toNatClampNeg (v1 + 1)) 0) fun S51 =>
  Option.bind (f_X11_isText F S51 v0 6) fun z52 => lt z52.1 fun r54 => lt z52.2 fun S53 =>
  if r54 = 0 then
  (f_X11_parseClass_L126 F S53 v0 v1)
  else
  (Option.bind (sr S53 1004 v0) fun j57 =>
  Option.bind (f_X11_numberAfter F S53 v0 6 ((1 : Int32)) ((99 : Int32))) fun z58 => lt z58.1 fun r60 => lt z58.2 fun S59 =>
  cki (v1 + 1) (ln S59 j57) <|
  lt (uai S59 j57 (Int32.toNatClampNeg (v1 + 1)) r60) fun S63 =>
  f_X11_parseClass_L126 F S63 v0 v1)
def f_X11_parseClass_L67 (F : Nat) (S0 : St) (v0 : Nat) (v1 : Int32) (v2 : Int32) : Option (St) :=
  Option.bind (sr S0 1004 v0) fun j81 =>
  if v2 = 0 then
  (Option.bind (f_X11_number F S0 v0 ((1 : Int32)) ((999 : Int32))) fun z83 => lt z83.1 fun r85 => lt z83.2 fun S84 =>
  f_X11_parseClass_L90 F S84 v0 v1 r85 (v1 + 0) j81)
  else
  (f_X11_parseClass_L90 F S0 v0 v1 ((-1)) (v1 + 0) j81)
def f_X11_parseClass_L17 (F : Nat) (S0 : St) (v0 : Nat) (s0 : Int32) (s1 : Nat) : Option (St) :=
  Option.bind (f_X11_begins F S0 s1 s0) fun z93 => lt z93.1 fun r95 => lt z93.2 fun S94 =>
  if ¬ r95 = 0 then
  (Option.bind (sr S94 1004 v0) fun j98 =>
  cki 3 (ln S94 j98) <|
  lt (11 + (9 * (ai S94 j98 (Int32.toNatClampNeg 3)))) fun x100 =>
  Option.bind (f_X11_newName F S94 v0 ((0 : Int32)) ((0 : Int32)) (x100 + 3)) fun S102 =>
  Option.bind (f_X11_word F S102 v0 4) fun S106 =>
  Option.bind (f_X11_isText F S106 v0 5) fun z109 => lt z109.1 fun r111 => lt z109.2 fun S110 =>
  if r111 = 0 then
  (f_X11_parseClass_L67 F S110 v0 x100 r111)
  else
  (Option.bind (f_X11_goOn F S110 v0) fun S115 =>
  f_X11_parseClass_L67 F S115 v0 x100 r111))
  else
  (some S94)
def f_X11_parseClass (F : Nat) (S0 : St) (p0 : Nat) : Option (St) :=
  Option.bind (sr S0 1004 p0) fun j143 =>
  cki 3 (ln S0 j143) <|
  if 8 ≤ (ai S0 j143 (Int32.toNatClampNeg 3)) then
  (f_X11_parseClass_L17 F S0 p0 0 p0)
  else
  (f_X11_parseClass_L17 F S0 p0 1 p0)
def f_X11_parseUser_L26 (F : Nat) (S0 : St) (v0 : Nat) (s0 : Int32) (s1 : Nat) : Option (St) :=
  Option.bind (f_X11_begins F S0 s1 s0) fun z1 => lt z1.1 fun r3 => lt z1.2 fun S2 =>
  if ¬ r3 = 0 then
  (Option.bind (sr S2 1004 v0) fun j6 =>
  cki 4 (ln S2 j6) <|
  lt (83 + (8 * (ai S2 j6 (Int32.toNatClampNeg 4)))) fun x8 =>
  Option.bind (f_X11_newName F S2 v0 ((1 : Int32)) ((2 : Int32)) (x8 + 2)) fun S10 =>
  Option.bind (f_X11_word F S10 v0 3) fun S14 =>
  Option.bind (sr S14 1004 v0) fun j17 =>
  Option.bind (f_X11_oldName F S14 v0 ((0 : Int32))) fun z18 => lt z18.1 fun r20 => lt z18.2 fun S19 =>
  cki (x8 + 0) (ln S19 j17) <|
  lt (uai S19 j17 (Int32.toNatClampNeg (x8 + 0)) r20) fun S23 =>
  Option.bind (sr S23 1004 v0) fun j24 =>
  Option.bind (f_X11_numberAfter F S23 v0 9 ((1 : Int32)) ((99999 : Int32))) fun z25 => lt z25.1 fun r27 => lt z25.2 fun S26 =>
  cki (x8 + 1) (ln S26 j24) <|
  lt (uai S26 j24 (Int32.toNatClampNeg (x8 + 1)) r27) fun S30 =>
  Option.bind (sr S30 1004 v0) fun j31 =>
  cki 4 (ln S30 j31) <|
  cki 4 (ln S30 j31) <|
  lt (uai S30 j31 (Int32.toNatClampNeg 4) ((ai S30 j31 (Int32.toNatClampNeg 4)) + 1)) fun S34 =>
  some S34)
  else
  (some S2)
def f_X11_parseUser_L25 (F : Nat) (S0 : St) (v0 : Nat) (s0 : Nat) : Option (St) :=
  f_X11_parseUser_L26 F S0 v0 0 s0
def f_X11_parseUser (F : Nat) (S0 : St) (p0 : Nat) : Option (St) :=
  Option.bind (sr S0 1004 p0) fun j69 =>
  cki 4 (ln S0 j69) <|
  if 10 ≤ (ai S0 j69 (Int32.toNatClampNeg 4)) then
  (f_X11_parseUser_L25 F S0 p0 p0)
  else
  (Option.bind (sr S0 1004 p0) fun j72 =>
  cki 3 (ln S0 j72) <|
  if (ai S0 j72 (Int32.toNatClampNeg 3)) ≤ 0 then
  (f_X11_parseUser_L25 F S0 p0 p0)
  else
  (f_X11_parseUser_L26 F S0 p0 1 p0))
def f_X11_member_L90 (F : Nat) (S0 : St) (v0 : Nat) (s0 : Int32) : Option (Int32 × St) :=
  Option.bind (f_X11_goOn F S0 v0) fun S2 =>
  some (s0, S2)
def f_X11_member_L53 (F : Nat) (S0 : St) (v0 : Nat) (v1 : Int32) (v2 : Int32) : Option (Int32 × St) :=
  Option.bind (f_X11_good F S0 v0) fun z9 => lt z9.1 fun r11 => lt z9.2 fun S10 =>
  if ¬ r11 = 0 then
  (if v1 = ((-1)) then
  (Option.bind (sr S10 1004 v0) fun j15 =>
  cki ((163 + (7 * v2)) + 0) (ln S10 j15) <|
  f_X11_member_L90 F S10 v0 (ai S10 j15 (Int32.toNatClampNeg ((163 + (7 * v2)) + 0))))
  else
  (f_X11_member_L90 F S10 v0 (1 <<< (v1 &&& 31))))
  else
  (f_X11_member_L90 F S10 v0 0)
def f_X11_member_L37 (F : Nat) (S0 : St) (v0 : Nat) (v1 : Int32) (s0 : Int32) : Option (Int32 × St) :=
  if ¬ v1 = ((-1)) then
  (f_X11_member_L53 F S0 v0 v1 s0)
  else
  (if ¬ s0 = ((-1)) then
  (f_X11_member_L53 F S0 v0 v1 s0)
  else
  (Option.bind (f_X11_errs F S0 v0 ((3 : Int32))) fun S28 =>
  f_X11_member_L53 F S28 v0 v1 s0))
def f_X11_member_L20 (F : Nat) (S0 : St) (v0 : Nat) (s0 : Int32) : Option (Int32 × St) :=
  Option.bind (f_X11_good F S0 v0) fun z37 => lt z37.1 fun r39 => lt z37.2 fun S38 =>
  if r39 = 0 then
  (f_X11_member_L37 F S38 v0 s0 0)
  else
  (Option.bind (f_X11_kindNamed F S38 v0 ((2 : Int32))) fun z42 => lt z42.1 fun r44 => lt z42.2 fun S43 =>
  f_X11_member_L37 F S43 v0 s0 r44)
def f_X11_member (F : Nat) (S0 : St) (p0 : Nat) : Option (Int32 × St) :=
  Option.bind (f_X11_checkName F S0 p0) fun S56 =>
  Option.bind (f_X11_good F S56 p0) fun z59 => lt z59.1 fun r61 => lt z59.2 fun S60 =>
  if r61 = 0 then
  (f_X11_member_L20 F S60 p0 0)
  else
  (Option.bind (f_X11_kindNamed F S60 p0 ((1 : Int32))) fun z64 => lt z64.1 fun r66 => lt z64.2 fun S65 =>
  f_X11_member_L20 F S65 p0 r66)
def f_X11_parseGroup_L61 (F : Nat) : Nat → St → Nat → Int32 → Int32 → Option (St)
  | 0, _, _, _, _ => none
  | fu + 1, S0, v0, v1, v2 =>
    Option.bind (f_X11_isSymbol F S0 v0 ((44 : Int32))) fun z1 => lt z1.1 fun r3 => lt z1.2 fun S2 =>
    if r3 = 0 then
    (Option.bind (sr S2 1004 v0) fun j6 =>
    cki (v1 + 0) (ln S2 j6) <|
    lt (uai S2 j6 (Int32.toNatClampNeg (v1 + 0)) v2) fun S8 =>
    Option.bind (sr S8 1004 v0) fun j9 =>
    cki 5 (ln S8 j9) <|
    cki 5 (ln S8 j9) <|
    lt (uai S8 j9 (Int32.toNatClampNeg 5) ((ai S8 j9 (Int32.toNatClampNeg 5)) + 1)) fun S12 =>
    some S12)
    else
    (Option.bind (f_X11_goOn F S2 v0) fun S14 =>
    Option.bind (f_X11_member F S14 v0) fun z17 => lt z17.1 fun r19 => lt z17.2 fun S18 =>
    lt (v2 ||| r19) fun x21 =>
    (fun a0 a1 a2 a3 => f_X11_parseGroup_L61 F fu a0 a1 a2 a3) S18 v0 v1 x21)
def f_X11_parseGroup_L26 (F : Nat) (S0 : St) (v0 : Nat) (s0 : Int32) (s1 : Nat) : Option (St) :=
  Option.bind (f_X11_begins F S0 s1 s0) fun z43 => lt z43.1 fun r45 => lt z43.2 fun S44 =>
  if ¬ r45 = 0 then
  (Option.bind (sr S44 1004 v0) fun j48 =>
  cki 5 (ln S44 j48) <|
  lt (163 + (7 * (ai S44 j48 (Int32.toNatClampNeg 5)))) fun x50 =>
  Option.bind (f_X11_newName F S44 v0 ((1 : Int32)) ((2 : Int32)) (x50 + 1)) fun S52 =>
  Option.bind (f_X11_member F S52 v0) fun z55 => lt z55.1 fun r57 => lt z55.2 fun S56 =>
  f_X11_parseGroup_L61 F F S56 v0 x50 r57)
  else
  (some S44)
def f_X11_parseGroup_L25 (F : Nat) (S0 : St) (v0 : Nat) (s0 : Nat) : Option (St) :=
  f_X11_parseGroup_L26 F S0 v0 0 s0
def f_X11_parseGroup (F : Nat) (S0 : St) (p0 : Nat) : Option (St) :=
  Option.bind (sr S0 1004 p0) fun j75 =>
  cki 5 (ln S0 j75) <|
  if 6 ≤ (ai S0 j75 (Int32.toNatClampNeg 5)) then
  (f_X11_parseGroup_L25 F S0 p0 p0)
  else
  (Option.bind (sr S0 1004 p0) fun j78 =>
  cki 4 (ln S0 j78) <|
  if (ai S0 j78 (Int32.toNatClampNeg 4)) ≤ 0 then
  (f_X11_parseGroup_L25 F S0 p0 p0)
  else
  (f_X11_parseGroup_L26 F S0 p0 1 p0))
def f_X11_parseWord_L57 (F : Nat) : Nat → St → Nat → Int32 → Int32 → Option (St)
  | 0, _, _, _, _ => none
  | fu + 1, S0, v0, v1, v2 =>
    if 10 ≤ v2 then
    (Option.bind (f_X11_goOn F S0 v0) fun S3 =>
    some S3)
    else
    (Option.bind (sr S0 1004 v0) fun j6 =>
    Option.bind (f_X11_letter F S0 v0 v2) fun z7 => lt z7.1 fun r9 => lt z7.2 fun S8 =>
    cki ((v1 + 5) + v2) (ln S8 j6) <|
    lt (uai S8 j6 (Int32.toNatClampNeg ((v1 + 5) + v2)) r9) fun S12 =>
    lt (v2 + 1) fun x13 =>
    (fun a0 a1 a2 a3 => f_X11_parseWord_L57 F fu a0 a1 a2 a3) S12 v0 v1 x13)
def f_X11_parseWord_L38 (F : Nat) (S0 : St) (v0 : Nat) (v1 : Int32) : Option (St) :=
  Option.bind (sr S0 1004 v0) fun j27 =>
  cki (v1 + 4) (ln S0 j27) <|
  lt (uai S0 j27 (Int32.toNatClampNeg (v1 + 4)) ((si S0 1009 v0) - (si S0 1010 v0))) fun S29 =>
  f_X11_parseWord_L57 F F S29 v0 v1 0
def f_X11_parseWord_L33 (F : Nat) (S0 : St) (v0 : Nat) (v1 : Int32) : Option (St) :=
  Option.bind (f_X11_errs F S0 v0 ((1 : Int32))) fun S34 =>
  f_X11_parseWord_L38 F S34 v0 v1
def f_X11_parseWord (F : Nat) (S0 : St) (p0 : Nat) (p1 : Int32) : Option (St) :=
  Option.bind (f_X11_goOn F S0 p0) fun S42 =>
  Option.bind (f_X11_good F S42 p0) fun z45 => lt z45.1 fun r47 => lt z45.2 fun S46 =>
  if r47 = 0 then
  (f_X11_parseWord_L38 F S46 p0 p1)
  else
  (if ¬ (si S46 1011 p0) = 1 then
  (f_X11_parseWord_L33 F S46 p0 p1)
  else
  (if ((si S46 1009 p0) - (si S46 1010 p0)) ≤ 10 then
  (f_X11_parseWord_L38 F S46 p0 p1)
  else
  (f_X11_parseWord_L33 F S46 p0 p1)))
def f_X11_parseHold_L175 (F : Nat) (S0 : St) (v0 : Nat) (v1 : Int32) : Option (St) :=
  Option.bind (sr S0 1004 v0) fun j1 =>
  cki (v1 + 3) (ln S0 j1) <|
  lt (uai S0 j1 (Int32.toNatClampNeg (v1 + 3)) 1) fun S3 =>
  Option.bind (sr S3 1004 v0) fun j4 =>
  cki 6 (ln S3 j4) <|
  cki 6 (ln S3 j4) <|
  lt (uai S3 j4 (Int32.toNatClampNeg 6) ((ai S3 j4 (Int32.toNatClampNeg 6)) + 1)) fun S7 =>
  some S7
def f_X11_parseHold_L152 (F : Nat) (S0 : St) (v0 : Nat) (v1 : Int32) : Option (St) :=
  Option.bind (sr S0 1004 v0) fun j15 =>
  cki (v1 + 4) (ln S0 j15) <|
  lt (uai S0 j15 (Int32.toNatClampNeg (v1 + 4)) 0) fun S17 =>
  Option.bind (f_X11_isText F S17 v0 14) fun z18 => lt z18.1 fun r20 => lt z18.2 fun S19 =>
  if r20 = 0 then
  (f_X11_parseHold_L175 F S19 v0 v1)
  else
  (Option.bind (f_X11_parseWord F S19 v0 v1) fun S24 =>
  f_X11_parseHold_L175 F S24 v0 v1)
def f_X11_parseHold_L27 (F : Nat) (S0 : St) (v0 : Nat) (s0 : Int32) (s1 : Nat) : Option (St) :=
  Option.bind (f_X11_begins F S0 s1 s0) fun z39 => lt z39.1 fun r41 => lt z39.2 fun S40 =>
  if ¬ r41 = 0 then
  (Option.bind (sr S40 1004 v0) fun j44 =>
  cki 6 (ln S40 j44) <|
  lt (205 + (21 * (ai S40 j44 (Int32.toNatClampNeg 6)))) fun x46 =>
  Option.bind (f_X11_newName F S40 v0 ((3 : Int32)) ((3 : Int32)) (x46 + 15)) fun S48 =>
  Option.bind (f_X11_word F S48 v0 8) fun S52 =>
  Option.bind (sr S52 1004 v0) fun j55 =>
  Option.bind (f_X11_oldName F S52 v0 ((1 : Int32))) fun z56 => lt z56.1 fun r58 => lt z56.2 fun S57 =>
  cki (x46 + 0) (ln S57 j55) <|
  lt (uai S57 j55 (Int32.toNatClampNeg (x46 + 0)) r58) fun S61 =>
  Option.bind (sr S61 1004 v0) fun j62 =>
  cki (x46 + 1) (ln S61 j62) <|
  lt (uai S61 j62 (Int32.toNatClampNeg (x46 + 1)) 0) fun S64 =>
  Option.bind (sr S64 1004 v0) fun j65 =>
  cki (x46 + 2) (ln S64 j65) <|
  lt (uai S64 j65 (Int32.toNatClampNeg (x46 + 2)) 20000) fun S67 =>
  Option.bind (f_X11_isText F S67 v0 12) fun z68 => lt z68.1 fun r70 => lt z68.2 fun S69 =>
  if r70 = 0 then
  (f_X11_parseHold_L152 F S69 v0 x46)
  else
  (Option.bind (f_X11_goOn F S69 v0) fun S74 =>
  Option.bind (sr S74 1004 v0) fun j77 =>
  Option.bind (f_X11_number F S74 v0 ((0 : Int32)) ((9999 : Int32))) fun z78 => lt z78.1 fun r80 => lt z78.2 fun S79 =>
  cki (x46 + 1) (ln S79 j77) <|
  lt (uai S79 j77 (Int32.toNatClampNeg (x46 + 1)) r80) fun S83 =>
  Option.bind (sr S83 1004 v0) fun j84 =>
  Option.bind (sr S83 1004 v0) fun j85 =>
  cki (x46 + 1) (ln S83 j85) <|
  Option.bind (f_X11_numberAfter F S83 v0 13 (ai S83 j85 (Int32.toNatClampNeg (x46 + 1))) ((9999 : Int32))) fun z87 => lt z87.1 fun r89 => lt z87.2 fun S88 =>
  cki (x46 + 2) (ln S88 j84) <|
  lt (uai S88 j84 (Int32.toNatClampNeg (x46 + 2)) r89) fun S92 =>
  f_X11_parseHold_L152 F S92 v0 x46))
  else
  (some S40)
def f_X11_parseHold_L26 (F : Nat) (S0 : St) (v0 : Nat) (s0 : Nat) : Option (St) :=
  f_X11_parseHold_L27 F S0 v0 0 s0
def f_X11_parseHold (F : Nat) (S0 : St) (p0 : Nat) : Option (St) :=
  Option.bind (sr S0 1004 p0) fun j147 =>
  cki 6 (ln S0 j147) <|
  if 6 ≤ (ai S0 j147 (Int32.toNatClampNeg 6)) then
  (f_X11_parseHold_L26 F S0 p0 p0)
  else
  (Option.bind (sr S0 1004 p0) fun j150 =>
  cki 4 (ln S0 j150) <|
  if (ai S0 j150 (Int32.toNatClampNeg 4)) ≤ 0 then
  (f_X11_parseHold_L26 F S0 p0 p0)
  else
  (f_X11_parseHold_L27 F S0 p0 1 p0))
def f_X11_parseStatement_L83 (F : Nat) (S0 : St) (v0 : Nat) : Option (St) :=
  Option.bind (f_X11_goOn F S0 v0) fun S2 =>
  some S2
def f_X11_parseStatement_L69 (F : Nat) (S0 : St) (v0 : Nat) : Option (St) :=
  Option.bind (f_X11_isSymbol F S0 v0 ((59 : Int32))) fun z9 => lt z9.1 fun r11 => lt z9.2 fun S10 =>
  if ¬ r11 = 0 then
  (f_X11_parseStatement_L83 F S10 v0)
  else
  (Option.bind (f_X11_errs F S10 v0 ((1 : Int32))) fun S15 =>
  f_X11_parseStatement_L83 F S15 v0)
def f_X11_parseStatement (F : Nat) (S0 : St) (p0 : Nat) : Option (St) :=
  Option.bind (f_X11_isText F S0 p0 3) fun z27 => lt z27.1 fun r29 => lt z27.2 fun S28 =>
  if r29 = 0 then
  (Option.bind (f_X11_isText F S28 p0 8) fun z32 => lt z32.1 fun r34 => lt z32.2 fun S33 =>
  if r34 = 0 then
  (Option.bind (f_X11_isText F S33 p0 10) fun z37 => lt z37.1 fun r39 => lt z37.2 fun S38 =>
  if r39 = 0 then
  (Option.bind (f_X11_isText F S38 p0 11) fun z42 => lt z42.1 fun r44 => lt z42.2 fun S43 =>
  if r44 = 0 then
  (Option.bind (f_X11_errs F S43 p0 ((1 : Int32))) fun S48 =>
  f_X11_parseStatement_L69 F S48 p0)
  else
  (Option.bind (f_X11_parseHold F S43 p0) fun S52 =>
  f_X11_parseStatement_L69 F S52 p0))
  else
  (Option.bind (f_X11_parseGroup F S38 p0) fun S56 =>
  f_X11_parseStatement_L69 F S56 p0))
  else
  (Option.bind (f_X11_parseUser F S33 p0) fun S60 =>
  f_X11_parseStatement_L69 F S60 p0))
  else
  (Option.bind (f_X11_parseClass F S28 p0) fun S64 =>
  f_X11_parseStatement_L69 F S64 p0)
def f_X11_remember_L80 (F : Nat) : Nat → St → Nat → Int32 → Int32 → Option (St)
  | 0, _, _, _, _ => none
  | fu + 1, S0, v0, v1, v2 =>
    Option.bind (sr S0 1001 v0) fun j1 =>
    cki 8 (ln S0 j1) <|
    if (200 * (ai S0 j1 (Int32.toNatClampNeg 8))) ≤ v2 then
    (lt (ui S0 1026 v0 ((si S0 1026 v0) + 1)) fun S4 =>
    some S4)
    else
    (Option.bind (sr S0 1025 v0) fun j5 =>
    Option.bind (sr S0 1003 v0) fun j6 =>
    cki v2 (ln S0 j6) <|
    cki ((96000 * v1) + v2) (ln S0 j5) <|
    lt (uai S0 j5 (Int32.toNatClampNeg ((96000 * v1) + v2)) (Int32.toInt8 (ai S0 j6 (Int32.toNatClampNeg v2))).toInt32) fun S9 =>
    lt (v2 + 1) fun x10 =>
    (fun a0 a1 a2 a3 => f_X11_remember_L80 F fu a0 a1 a2 a3) S9 v0 v1 x10)
def f_X11_remember_L47 (F : Nat) : Nat → St → Nat → Int32 → Int32 → Option (St)
  | 0, _, _, _, _ => none
  | fu + 1, S0, v0, v1, v2 =>
    if 6391 ≤ v2 then
    (f_X11_remember_L80 F F S0 v0 v1 0)
    else
    (Option.bind (sr S0 1024 v0) fun j22 =>
    Option.bind (sr S0 1001 v0) fun j23 =>
    cki v2 (ln S0 j23) <|
    cki ((6391 * v1) + v2) (ln S0 j22) <|
    lt (uai S0 j22 (Int32.toNatClampNeg ((6391 * v1) + v2)) (ai S0 j23 (Int32.toNatClampNeg v2))) fun S26 =>
    lt (v2 + 1) fun x27 =>
    (fun a0 a1 a2 a3 => f_X11_remember_L47 F fu a0 a1 a2 a3) S26 v0 v1 x27)
def f_X11_remember_L32 (F : Nat) (S0 : St) (v0 : Nat) : Option (St) :=
  lt (((si S0 1027 v0) + (si S0 1026 v0)) - ((si S0 1027 v0) + (si S0 1026 v0)) / 6 * 6) fun x35 =>
  f_X11_remember_L47 F F S0 v0 x35 0
def f_X11_remember (F : Nat) (S0 : St) (p0 : Nat) : Option (St) :=
  if ¬ (si S0 1026 p0) = 6 then
  (f_X11_remember_L32 F S0 p0)
  else
  (lt (ui S0 1027 p0 (((si S0 1027 p0) + 1) - ((si S0 1027 p0) + 1) / 6 * 6)) fun S38 =>
  lt (ui S38 1026 p0 ((si S38 1026 p0) - 1)) fun S39 =>
  f_X11_remember_L32 F S39 p0)
def f_X11_load_L166 (F : Nat) : Nat → St → Nat → Int32 → Option (Int32 × St)
  | 0, _, _, _ => none
  | fu + 1, S0, v0, v1 =>
    if 6391 ≤ v1 then
    (Option.bind (sr S0 1001 v0) fun j2 =>
    cki 4 (ln S0 j2) <|
    some (ai S0 j2 (Int32.toNatClampNeg 4), S0))
    else
    (Option.bind (sr S0 1001 v0) fun j4 =>
    Option.bind (sr S0 1002 v0) fun j5 =>
    cki v1 (ln S0 j5) <|
    cki v1 (ln S0 j4) <|
    lt (uai S0 j4 (Int32.toNatClampNeg v1) (ai S0 j5 (Int32.toNatClampNeg v1))) fun S8 =>
    lt (v1 + 1) fun x9 =>
    (fun a0 a1 a2 => f_X11_load_L166 F fu a0 a1 a2) S8 v0 x9)
def f_X11_load_L142 (F : Nat) (S0 : St) (v0 : Nat) : Option (Int32 × St) :=
  Option.bind (sr S0 1001 v0) fun j19 =>
  lt (ur S0 1004 v0 (some j19)) fun S20 =>
  Option.bind (f_X11_good F S20 v0) fun z21 => lt z21.1 fun r23 => lt z21.2 fun S22 =>
  if ¬ r23 = 0 then
  (Option.bind (f_X11_remember F S22 v0) fun S27 =>
  f_X11_load_L166 F F S27 v0 0)
  else
  (some ((-4), S22))
def f_X11_load_L121 (F : Nat) : Nat → St → Nat → Option (Int32 × St)
  | 0, _, _ => none
  | fu + 1, S0, v0 =>
    Option.bind (f_X11_good F S0 v0) fun z41 => lt z41.1 fun r43 => lt z41.2 fun S42 =>
    if r43 = 0 then
    (f_X11_load_L142 F S42 v0)
    else
    (if (si S42 1011 v0) = 0 then
    (f_X11_load_L142 F S42 v0)
    else
    (Option.bind (f_X11_parseStatement F S42 v0) fun S48 =>
    (fun a0 a1 => f_X11_load_L121 F fu a0 a1) S48 v0))
def f_X11_load_L117 (F : Nat) (S0 : St) (v0 : Nat) : Option (Int32 × St) :=
  Option.bind (f_X11_goOn F S0 v0) fun S62 =>
  f_X11_load_L121 F F S62 v0
def f_X11_load_L35 (F : Nat) : Nat → St → Nat → Int32 → Option (Int32 × St)
  | 0, _, _, _ => none
  | fu + 1, S0, v0, v1 =>
    if 6391 ≤ v1 then
    (Option.bind (sr S0 1002 v0) fun j70 =>
    lt (ur S0 1004 v0 (some j70)) fun S71 =>
    Option.bind (f_X11_scan F S71 v0) fun S73 =>
    Option.bind (f_X11_word F S73 v0 0) fun S77 =>
    Option.bind (sr S77 1004 v0) fun j80 =>
    Option.bind (f_X11_numberAfter F S77 v0 1 ((0 : Int32)) ((30 : Int32))) fun z81 => lt z81.1 fun r83 => lt z81.2 fun S82 =>
    cki 0 (ln S82 j80) <|
    lt (uai S82 j80 (Int32.toNatClampNeg 0) r83) fun S86 =>
    Option.bind (sr S86 1004 v0) fun j87 =>
    Option.bind (f_X11_numberAfter F S86 v0 2 ((1 : Int32)) ((30 : Int32))) fun z88 => lt z88.1 fun r90 => lt z88.2 fun S89 =>
    cki 1 (ln S89 j87) <|
    lt (uai S89 j87 (Int32.toNatClampNeg 1) r90) fun S93 =>
    Option.bind (f_X11_isSymbol F S93 v0 ((59 : Int32))) fun z94 => lt z94.1 fun r96 => lt z94.2 fun S95 =>
    if ¬ r96 = 0 then
    (f_X11_load_L117 F S95 v0)
    else
    (Option.bind (f_X11_errs F S95 v0 ((1 : Int32))) fun S100 =>
    f_X11_load_L117 F S100 v0))
    else
    (Option.bind (sr S0 1002 v0) fun j103 =>
    cki v1 (ln S0 j103) <|
    lt (uai S0 j103 (Int32.toNatClampNeg v1) 0) fun S105 =>
    lt (v1 + 1) fun x106 =>
    (fun a0 a1 a2 => f_X11_load_L35 F fu a0 a1 a2) S105 v0 x106)
def f_X11_load (F : Nat) (S0 : St) (p0 : Nat) : Option (Int32 × St) :=
  lt (ui S0 1000 p0 0) fun S145 =>
  lt (ui S145 1008 p0 (si S145 1007 p0)) fun S146 =>
  lt (ui S146 1007 p0 0) fun S147 =>
  lt (ui S147 1009 p0 0) fun S148 =>
  lt (ui S148 1013 p0 0) fun S149 =>
  lt (ui S149 1014 p0 ((-1))) fun S150 =>
  f_X11_load_L35 F F S150 p0 0
def f_X11_errorCode (F : Nat) (S0 : St) (p0 : Nat) : Option (Int32 × St) :=
  lt (ui S0 1000 p0 0) fun S1 =>
  some (si S1 1013 p0, S1)
def f_X11_errorPosition (F : Nat) (S0 : St) (p0 : Nat) : Option (Int32 × St) :=
  lt (ui S0 1000 p0 0) fun S1 =>
  some (si S1 1014 p0, S1)
def f_X11_isInputWord_L28 (F : Nat) : Nat → St → Nat → Int32 → Int32 → Option (Int32 × St)
  | 0, _, _, _, _ => none
  | fu + 1, S0, v0, v1, v2 =>
    if (si S0 1009 v0) ≤ v2 then
    (ck (v1 = 0 ∨ v1 = 1) <| some (v1, S0))
    else
    (if v1 = 0 then
    (ck (v1 = 0 ∨ v1 = 1) <| some (v1, S0))
    else
    (Option.bind (sr S0 1006 v0) fun j5 =>
    cki v2 (ln S0 j5) <|
    Option.bind (f_X11_in F S0 ((ai S0 j5 (Int32.toNatClampNeg v2)).toInt64) (((97) : Int64)) (((122) : Int64))) fun z7 => lt z7.1 fun r9 => lt z7.2 fun S8 =>
    lt (v2 + 1) fun x11 =>
    (fun a0 a1 a2 a3 => f_X11_isInputWord_L28 F fu a0 a1 a2 a3) S8 v0 r9 x11))
def f_X11_isInputWord_L25 (F : Nat) (S0 : St) (v0 : Nat) (s0 : Int32) : Option (Int32 × St) :=
  f_X11_isInputWord_L28 F F S0 v0 s0 0
def f_X11_isInputWord (F : Nat) (S0 : St) (p0 : Nat) : Option (Int32 × St) :=
  lt (ui S0 1010 p0 0) fun S23 =>
  lt (ui S23 1009 p0 (si S23 1007 p0)) fun S24 =>
  if (si S24 1009 p0) ≤ 0 then
  (f_X11_isInputWord_L25 F S24 p0 0)
  else
  (f_X11_isInputWord_L25 F S24 p0 1)
def f_X11_find (F : Nat) (S0 : St) (p0 : Nat) (p1 : Int32) : Option (Int32 × St) :=
  Option.bind (f_X11_in F S0 p1.toInt64 ((0 : Int64)) (((3) : Int64))) fun z1 => lt z1.1 fun r3 => lt z1.2 fun S2 =>
  Option.bind (f_X11_passes F S2 p0 r3) fun z5 => lt z5.1 fun r7 => lt z5.2 fun S6 =>
  if ¬ r7 = 0 then
  (Option.bind (f_X11_isInputWord F S6 p0) fun z10 => lt z10.1 fun r12 => lt z10.2 fun S11 =>
  lt (ui S11 1007 p0 0) fun S14 =>
  if r12 = 0 then
  (some ((-1), S14))
  else
  (Option.bind (f_X11_kindNamed F S14 p0 p1) fun z16 => lt z16.1 fun r18 => lt z16.2 fun S17 =>
  some (r18, S17)))
  else
  (some (0, S6))
def f_X11_count (F : Nat) (S0 : St) (p0 : Nat) (p1 : Int32) : Option (Int32 × St) :=
  Option.bind (f_X11_in F S0 p1.toInt64 ((0 : Int64)) (((3) : Int64))) fun z1 => lt z1.1 fun r3 => lt z1.2 fun S2 =>
  Option.bind (f_X11_passes F S2 p0 r3) fun z5 => lt z5.1 fun r7 => lt z5.2 fun S6 =>
  if r7 = 0 then
  (some (0, S6))
  else
  (Option.bind (sr S6 1001 p0) fun j10 =>
  cki (3 + p1) (ln S6 j10) <|
  some (ai S6 j10 (Int32.toNatClampNeg (3 + p1)), S6))
def f_X11_members (F : Nat) (S0 : St) (p0 : Nat) (p1 : Int32) : Option (Int32 × St) :=
  Option.bind (sr S0 1001 p0) fun j1 =>
  cki 5 (ln S0 j1) <|
  Option.bind (f_X11_in F S0 p1.toInt64 ((0 : Int64)) (((ai S0 j1 (Int32.toNatClampNeg 5)) - 1).toInt64)) fun z3 => lt z3.1 fun r5 => lt z3.2 fun S4 =>
  Option.bind (f_X11_passes F S4 p0 r5) fun z7 => lt z7.1 fun r9 => lt z7.2 fun S8 =>
  if r9 = 0 then
  (some (0, S8))
  else
  (Option.bind (sr S8 1001 p0) fun j12 =>
  cki ((163 + (7 * p1)) + 0) (ln S8 j12) <|
  some (ai S8 j12 (Int32.toNatClampNeg ((163 + (7 * p1)) + 0)), S8))
def f_X11_retention (F : Nat) (S0 : St) (p0 : Nat) (p1 : Int32) (p2 : Int32) : Option (Int32 × St) :=
  Option.bind (f_X11_isClass F S0 p0 p1) fun z1 => lt z1.1 fun r3 => lt z1.2 fun S2 =>
  Option.bind (f_X11_in F S2 p2.toInt64 ((0 : Int64)) (((2) : Int64))) fun z5 => lt z5.1 fun r7 => lt z5.2 fun S6 =>
  Option.bind (f_X11_passes2 F S6 p0 r3 r7) fun z9 => lt z9.1 fun r11 => lt z9.2 fun S10 =>
  if r11 = 0 then
  (some (0, S10))
  else
  (Option.bind (f_X11_classValue F S10 p0 p1 p2) fun z14 => lt z14.1 fun r16 => lt z14.2 fun S15 =>
  some (r16, S15))
def f_X11_ladder_L4 (F : Nat) : Nat → St → Nat → Int32 → Int32 → Option (Int32 × St)
  | 0, _, _, _, _ => none
  | fu + 1, S0, v0, v2, v3 =>
    if v3 = ((-1)) then
    (some (v2, S0))
    else
    (Option.bind (f_X11_classValue F S0 v0 v3 ((0 : Int32))) fun z2 => lt z2.1 fun r4 => lt z2.2 fun S3 =>
    if ¬ r4 = ((-1)) then
    (Option.bind (f_X11_classValue F S3 v0 v3 ((0 : Int32))) fun z7 => lt z7.1 fun r9 => lt z7.2 fun S8 =>
    lt (v2 + r9) fun x11 =>
    Option.bind (f_X11_classValue F S8 v0 v3 ((2 : Int32))) fun z12 => lt z12.1 fun r14 => lt z12.2 fun S13 =>
    (fun a0 a1 a2 a3 => f_X11_ladder_L4 F fu a0 a1 a2 a3) S13 v0 x11 r14)
    else
    (some ((-1), S3)))
def f_X11_ladder (F : Nat) (S0 : St) (p0 : Nat) (p1 : Int32) : Option (Int32 × St) :=
  f_X11_ladder_L4 F F S0 p0 0 p1
def f_X11_ladderDays (F : Nat) (S0 : St) (p0 : Nat) (p1 : Int32) : Option (Int32 × St) :=
  Option.bind (f_X11_isClass F S0 p0 p1) fun z1 => lt z1.1 fun r3 => lt z1.2 fun S2 =>
  Option.bind (f_X11_passes F S2 p0 r3) fun z5 => lt z5.1 fun r7 => lt z5.2 fun S6 =>
  if r7 = 0 then
  (some (0, S6))
  else
  (Option.bind (f_X11_ladder F S6 p0 p1) fun z10 => lt z10.1 fun r12 => lt z10.2 fun S11 =>
  some (r12, S11))
def f_X11_day (F : Nat) (S0 : St) (p0 : Nat) : Option (Int32 × St) :=
  lt (ui S0 1000 p0 0) fun S1 =>
  Option.bind (sr S1 1001 p0) fun j2 =>
  cki 2 (ln S1 j2) <|
  some (ai S1 j2 (Int32.toNatClampNeg 2), S1)
def f_X11_partByteAt (F : Nat) (S0 : St) (p0 : Nat) (p1 : Int32) (p2 : Int32) : Option (Int32 × St) :=
  Option.bind (sr S0 1003 p0) fun j1 =>
  cki ((200 * p1) + p2) (ln S0 j1) <|
  some (ai S0 j1 (Int32.toNatClampNeg ((200 * p1) + p2)), S0)
def f_X11_isLetterIn (F : Nat) (S0 : St) (p0 : Nat) (p1 : Int32) (p2 : Int32) : Option (Int32 × St) :=
  if p2 < 0 then
  (some (0, S0))
  else
  (Option.bind (f_X11_partValue F S0 p0 p1 ((0 : Int32))) fun z2 => lt z2.1 fun r4 => lt z2.2 fun S3 =>
  if r4 ≤ p2 then
  (some (0, S3))
  else
  (Option.bind (f_X11_partByteAt F S3 p0 p1 p2) fun z7 => lt z7.1 fun r9 => lt z7.2 fun S8 =>
  Option.bind (f_X11_in F S8 r9.toInt64 (((97) : Int64)) (((122) : Int64))) fun z11 => lt z11.1 fun r13 => lt z11.2 fun S12 =>
  if r13 = 0 then
  (some (0, S12))
  else
  (some (1, S12))))
def f_X11_isWordAt_L83 (F : Nat) (k34 : St → Nat → Int32 → Int32 → Int32 → Int32 → Option (Int32 × St)) (S0 : St) (v0 : Nat) (v1 : Int32) (v2 : Int32) (v4 : Int32) (s0 : Int32) : Option (Int32 × St) :=
  lt (v4 + 1) fun x1 =>
  k34 S0 v0 v1 v2 s0 x1
def f_X11_isWordAt_L82 (F : Nat) (k34 : St → Nat → Int32 → Int32 → Int32 → Int32 → Option (Int32 × St)) (S0 : St) (v0 : Nat) (v1 : Int32) (v2 : Int32) (v4 : Int32) : Option (Int32 × St) :=
  f_X11_isWordAt_L83 F k34 S0 v0 v1 v2 v4 0
def f_X11_isWordAt_L34 (F : Nat) : Nat → St → Nat → Int32 → Int32 → Int32 → Int32 → Option (Int32 × St)
  | 0, _, _, _, _, _, _ => none
  | fu + 1, S0, v0, v1, v2, v3, v4 =>
    if (si S0 1016 v0) ≤ v4 then
    (ck (v3 = 0 ∨ v3 = 1) <| some (v3, S0))
    else
    (if v3 = 0 then
    (ck (v3 = 0 ∨ v3 = 1) <| some (v3, S0))
    else
    (Option.bind (f_X11_isLetterIn F S0 v0 v1 (v2 + v4)) fun z7 => lt z7.1 fun r9 => lt z7.2 fun S8 =>
    if r9 = 0 then
    (f_X11_isWordAt_L82 F (fun a0 a1 a2 a3 a4 a5 => f_X11_isWordAt_L34 F fu a0 a1 a2 a3 a4 a5) S8 v0 v1 v2 v4)
    else
    (Option.bind (f_X11_partByteAt F S8 v0 v1 (v2 + v4)) fun z12 => lt z12.1 fun r14 => lt z12.2 fun S13 =>
    Option.bind (sr S13 1015 v0) fun j16 =>
    cki v4 (ln S13 j16) <|
    if ¬ r14 = (ai S13 j16 (Int32.toNatClampNeg v4)) then
    (f_X11_isWordAt_L82 F (fun a0 a1 a2 a3 a4 a5 => f_X11_isWordAt_L34 F fu a0 a1 a2 a3 a4 a5) S13 v0 v1 v2 v4)
    else
    (f_X11_isWordAt_L83 F (fun a0 a1 a2 a3 a4 a5 => f_X11_isWordAt_L34 F fu a0 a1 a2 a3 a4 a5) S13 v0 v1 v2 v4 1))))
def f_X11_isWordAt_L30 (F : Nat) (S0 : St) (v0 : Nat) (v1 : Int32) (v2 : Int32) (s0 : Int32) : Option (Int32 × St) :=
  f_X11_isWordAt_L34 F F S0 v0 v1 v2 s0 0
def f_X11_isWordAt_L29 (F : Nat) (S0 : St) (v0 : Nat) (v1 : Int32) (v2 : Int32) : Option (Int32 × St) :=
  f_X11_isWordAt_L30 F S0 v0 v1 v2 0
def f_X11_isWordAt (F : Nat) (S0 : St) (p0 : Nat) (p1 : Int32) (p2 : Int32) : Option (Int32 × St) :=
  Option.bind (f_X11_isLetterIn F S0 p0 p1 (p2 - 1)) fun z35 => lt z35.1 fun r37 => lt z35.2 fun S36 =>
  if ¬ r37 = 0 then
  (f_X11_isWordAt_L29 F S36 p0 p1 p2)
  else
  (Option.bind (f_X11_isLetterIn F S36 p0 p1 (p2 + (si S36 1016 p0))) fun z40 => lt z40.1 fun r42 => lt z40.2 fun S41 =>
  if ¬ r42 = 0 then
  (f_X11_isWordAt_L29 F S41 p0 p1 p2)
  else
  (f_X11_isWordAt_L30 F S41 p0 p1 p2 1))
def f_X11_contains_L24 (F : Nat) (k2 : St → Nat → Int32 → Int32 → Option (Int32 × St)) : Nat → St → Nat → Int32 → Int32 → Int32 → Int32 → Option (Int32 × St)
  | 0, _, _, _, _, _, _ => none
  | fu + 1, S0, v0, v1, v2, v3, v4 =>
    Option.bind (f_X11_partValue F S0 v0 v3 ((0 : Int32))) fun z1 => lt z1.1 fun r3 => lt z1.2 fun S2 =>
    if r3 < (v4 + (si S0 1016 v0)) then
    (lt (v2 + 1) fun x6 =>
    k2 S2 v0 v1 x6)
    else
    (Option.bind (f_X11_isWordAt F S2 v0 v3 v4) fun z7 => lt z7.1 fun r9 => lt z7.2 fun S8 =>
    if r9 = 0 then
    (lt (v4 + 1) fun x12 =>
    (fun a0 a1 a2 a3 a4 a5 => f_X11_contains_L24 F k2 fu a0 a1 a2 a3 a4 a5) S8 v0 v1 v2 v3 x12)
    else
    (some (1, S8)))
def f_X11_contains_L2 (F : Nat) : Nat → St → Nat → Int32 → Int32 → Option (Int32 × St)
  | 0, _, _, _, _ => none
  | fu + 1, S0, v0, v1, v2 =>
    Option.bind (f_X11_messageValue F S0 v0 v1 ((2 : Int32))) fun z25 => lt z25.1 fun r27 => lt z25.2 fun S26 =>
    if r27 ≤ v2 then
    (some (0, S26))
    else
    (Option.bind (f_X11_messageValue F S26 v0 v1 (3 + v2)) fun z30 => lt z30.1 fun r32 => lt z30.2 fun S31 =>
    f_X11_contains_L24 F (fun a0 a1 a2 a3 => f_X11_contains_L2 F fu a0 a1 a2 a3) F S31 v0 v1 v2 r32 0)
def f_X11_contains (F : Nat) (S0 : St) (p0 : Nat) (p1 : Int32) : Option (Int32 × St) :=
  f_X11_contains_L2 F F S0 p0 p1 0
def f_X11_isCovered_L61 (F : Nat) : Nat → St → Nat → Int32 → Int32 → Int32 → Option (Int32 × St)
  | 0, _, _, _, _, _ => none
  | fu + 1, S0, v0, v1, v3, v4 =>
    if 10 ≤ v4 then
    (if (si S0 1016 v0) = 0 then
    (some (1, S0))
    else
    (Option.bind (f_X11_contains F S0 v0 v1) fun z3 => lt z3.1 fun r5 => lt z3.2 fun S4 =>
    if r5 = 0 then
    (some (0, S4))
    else
    (some (1, S4))))
    else
    (Option.bind (sr S0 1015 v0) fun j8 =>
    Option.bind (f_X11_holdValue F S0 v0 v3 (5 + v4)) fun z9 => lt z9.1 fun r11 => lt z9.2 fun S10 =>
    cki v4 (ln S10 j8) <|
    lt (uai S10 j8 (Int32.toNatClampNeg v4) r11) fun S14 =>
    lt (v4 + 1) fun x15 =>
    (fun a0 a1 a2 a3 a4 => f_X11_isCovered_L61 F fu a0 a1 a2 a3 a4) S14 v0 v1 v3 x15)
def f_X11_isCovered (F : Nat) (S0 : St) (p0 : Nat) (p1 : Int32) (p2 : Int32) (p3 : Int32) : Option (Int32 × St) :=
  Option.bind (f_X11_holdValue F S0 p0 p3 ((3 : Int32))) fun z31 => lt z31.1 fun r33 => lt z31.2 fun S32 =>
  if r33 = 0 then
  (some (0, S32))
  else
  (Option.bind (f_X11_holdValue F S32 p0 p3 ((0 : Int32))) fun z36 => lt z36.1 fun r38 => lt z36.2 fun S37 =>
  if ¬ r38 = p2 then
  (some (0, S37))
  else
  (Option.bind (f_X11_messageValue F S37 p0 p1 ((1 : Int32))) fun z41 => lt z41.1 fun r43 => lt z41.2 fun S42 =>
  Option.bind (f_X11_holdValue F S42 p0 p3 ((1 : Int32))) fun z45 => lt z45.1 fun r47 => lt z45.2 fun S46 =>
  Option.bind (f_X11_holdValue F S46 p0 p3 ((2 : Int32))) fun z49 => lt z49.1 fun r51 => lt z49.2 fun S50 =>
  Option.bind (f_X11_in F S50 r43.toInt64 r47.toInt64 r51.toInt64) fun z53 => lt z53.1 fun r55 => lt z53.2 fun S54 =>
  if ¬ r55 = 0 then
  (Option.bind (f_X11_holdValue F S54 p0 p3 ((4 : Int32))) fun z58 => lt z58.1 fun r60 => lt z58.2 fun S59 =>
  lt (ui S59 1016 p0 r60) fun S62 =>
  f_X11_isCovered_L61 F F S62 p0 p1 p3 0)
  else
  (some (0, S54))))
def f_X11_covers_L37 (F : Nat) (k5 : St → Nat → Int32 → Int32 → Int32 → Int32 → Option (Int32 × St)) (S0 : St) (v0 : Nat) (v1 : Int32) (v2 : Int32) (v4 : Int32) (s0 : Int32) (s1 : Int32) : Option (Int32 × St) :=
  lt (s1 ||| s0) fun x1 =>
  lt (v4 + 1) fun x2 =>
  k5 S0 v0 v1 v2 x1 x2
def f_X11_covers_L5 (F : Nat) : Nat → St → Nat → Int32 → Int32 → Int32 → Int32 → Option (Int32 × St)
  | 0, _, _, _, _, _, _ => none
  | fu + 1, S0, v0, v1, v2, v3, v4 =>
    Option.bind (sr S0 1001 v0) fun j5 =>
    cki 6 (ln S0 j5) <|
    if (ai S0 j5 (Int32.toNatClampNeg 6)) ≤ v4 then
    (some (v3, S0))
    else
    (Option.bind (f_X11_isCovered F S0 v0 v1 v2 v4) fun z8 => lt z8.1 fun r10 => lt z8.2 fun S9 =>
    if r10 = 0 then
    (f_X11_covers_L37 F (fun a0 a1 a2 a3 a4 a5 => f_X11_covers_L5 F fu a0 a1 a2 a3 a4 a5) S9 v0 v1 v2 v4 0 v3)
    else
    (f_X11_covers_L37 F (fun a0 a1 a2 a3 a4 a5 => f_X11_covers_L5 F fu a0 a1 a2 a3 a4 a5) S9 v0 v1 v2 v4 (1 <<< (v4 &&& 31)) v3))
def f_X11_covers (F : Nat) (S0 : St) (p0 : Nat) (p1 : Int32) (p2 : Int32) : Option (Int32 × St) :=
  f_X11_covers_L5 F F S0 p0 p1 p2 0 0
def f_X11_isKeptMessage_L40 (F : Nat) (k4 : St → Nat → Int32 → Int32 → Int32 → Option (Int32 × St)) (S0 : St) (v0 : Nat) (v1 : Int32) (v3 : Int32) (s0 : Int32) : Option (Int32 × St) :=
  lt (v3 + 1) fun x1 =>
  k4 S0 v0 v1 s0 x1
def f_X11_isKeptMessage_L35 (F : Nat) (k4 : St → Nat → Int32 → Int32 → Int32 → Option (Int32 × St)) (S0 : St) (v0 : Nat) (v1 : Int32) (v3 : Int32) : Option (Int32 × St) :=
  f_X11_isKeptMessage_L40 F k4 S0 v0 v1 v3 1
def f_X11_isKeptMessage_L4 (F : Nat) : Nat → St → Nat → Int32 → Int32 → Int32 → Option (Int32 × St)
  | 0, _, _, _, _, _ => none
  | fu + 1, S0, v0, v1, v2, v3 =>
    Option.bind (sr S0 1001 v0) fun j3 =>
    cki 4 (ln S0 j3) <|
    if (ai S0 j3 (Int32.toNatClampNeg 4)) ≤ v3 then
    (ck (v2 = 0 ∨ v2 = 1) <| some (v2, S0))
    else
    (if ¬ v2 = 0 then
    (f_X11_isKeptMessage_L35 F (fun a0 a1 a2 a3 a4 => f_X11_isKeptMessage_L4 F fu a0 a1 a2 a3 a4) S0 v0 v1 v3)
    else
    (Option.bind (f_X11_stateOf F S0 v0 v1 v3) fun z8 => lt z8.1 fun r10 => lt z8.2 fun S9 =>
    Option.bind (f_X11_in F S9 r10.toInt64 ((0 : Int64)) (((2) : Int64))) fun z12 => lt z12.1 fun r14 => lt z12.2 fun S13 =>
    if r14 = 0 then
    (f_X11_isKeptMessage_L40 F (fun a0 a1 a2 a3 a4 => f_X11_isKeptMessage_L4 F fu a0 a1 a2 a3 a4) S13 v0 v1 v3 0)
    else
    (f_X11_isKeptMessage_L35 F (fun a0 a1 a2 a3 a4 => f_X11_isKeptMessage_L4 F fu a0 a1 a2 a3 a4) S13 v0 v1 v3)))
def f_X11_isKeptMessage (F : Nat) (S0 : St) (p0 : Nat) (p1 : Int32) : Option (Int32 × St) :=
  f_X11_isKeptMessage_L4 F F S0 p0 p1 0 0
def f_X11_has_L38 (F : Nat) (k5 : St → Nat → Int32 → Int32 → Int32 → Int32 → Option (Int32 × St)) (S0 : St) (v0 : Nat) (v1 : Int32) (v2 : Int32) (v4 : Int32) (s0 : Int32) : Option (Int32 × St) :=
  lt (v4 + 1) fun x1 =>
  k5 S0 v0 v1 v2 s0 x1
def f_X11_has_L33 (F : Nat) (k5 : St → Nat → Int32 → Int32 → Int32 → Int32 → Option (Int32 × St)) (S0 : St) (v0 : Nat) (v1 : Int32) (v2 : Int32) (v4 : Int32) : Option (Int32 × St) :=
  f_X11_has_L38 F k5 S0 v0 v1 v2 v4 1
def f_X11_has_L5 (F : Nat) : Nat → St → Nat → Int32 → Int32 → Int32 → Int32 → Option (Int32 × St)
  | 0, _, _, _, _, _, _ => none
  | fu + 1, S0, v0, v1, v2, v3, v4 =>
    Option.bind (f_X11_messageValue F S0 v0 v1 ((2 : Int32))) fun z3 => lt z3.1 fun r5 => lt z3.2 fun S4 =>
    if r5 ≤ v4 then
    (ck (v3 = 0 ∨ v3 = 1) <| some (v3, S4))
    else
    (if ¬ v3 = 0 then
    (f_X11_has_L33 F (fun a0 a1 a2 a3 a4 a5 => f_X11_has_L5 F fu a0 a1 a2 a3 a4 a5) S4 v0 v1 v2 v4)
    else
    (Option.bind (f_X11_messageValue F S4 v0 v1 (3 + v4)) fun z10 => lt z10.1 fun r12 => lt z10.2 fun S11 =>
    if ¬ r12 = v2 then
    (f_X11_has_L38 F (fun a0 a1 a2 a3 a4 a5 => f_X11_has_L5 F fu a0 a1 a2 a3 a4 a5) S11 v0 v1 v2 v4 0)
    else
    (f_X11_has_L33 F (fun a0 a1 a2 a3 a4 a5 => f_X11_has_L5 F fu a0 a1 a2 a3 a4 a5) S11 v0 v1 v2 v4)))
def f_X11_has (F : Nat) (S0 : St) (p0 : Nat) (p1 : Int32) (p2 : Int32) : Option (Int32 × St) :=
  f_X11_has_L5 F F S0 p0 p1 p2 0 0
def f_X11_keepers_L38 (F : Nat) (k4 : St → Nat → Int32 → Int32 → Int32 → Option (Int32 × St)) (S0 : St) (v0 : Nat) (v1 : Int32) (v3 : Int32) (s0 : Int32) (s1 : Int32) : Option (Int32 × St) :=
  lt (s1 + s0) fun x1 =>
  lt (v3 + 1) fun x2 =>
  k4 S0 v0 v1 x1 x2
def f_X11_keepers_L37 (F : Nat) (k4 : St → Nat → Int32 → Int32 → Int32 → Option (Int32 × St)) (S0 : St) (v0 : Nat) (v1 : Int32) (v3 : Int32) (s0 : Int32) : Option (Int32 × St) :=
  f_X11_keepers_L38 F k4 S0 v0 v1 v3 0 s0
def f_X11_keepers_L4 (F : Nat) : Nat → St → Nat → Int32 → Int32 → Int32 → Option (Int32 × St)
  | 0, _, _, _, _, _ => none
  | fu + 1, S0, v0, v1, v2, v3 =>
    Option.bind (sr S0 1001 v0) fun j5 =>
    cki 7 (ln S0 j5) <|
    if (ai S0 j5 (Int32.toNatClampNeg 7)) ≤ v3 then
    (some (v2, S0))
    else
    (Option.bind (f_X11_has F S0 v0 v3 v1) fun z8 => lt z8.1 fun r10 => lt z8.2 fun S9 =>
    if r10 = 0 then
    (f_X11_keepers_L37 F (fun a0 a1 a2 a3 a4 => f_X11_keepers_L4 F fu a0 a1 a2 a3 a4) S9 v0 v1 v3 v2)
    else
    (Option.bind (f_X11_isKeptMessage F S9 v0 v3) fun z13 => lt z13.1 fun r15 => lt z13.2 fun S14 =>
    if r15 = 0 then
    (f_X11_keepers_L37 F (fun a0 a1 a2 a3 a4 => f_X11_keepers_L4 F fu a0 a1 a2 a3 a4) S14 v0 v1 v3 v2)
    else
    (f_X11_keepers_L38 F (fun a0 a1 a2 a3 a4 => f_X11_keepers_L4 F fu a0 a1 a2 a3 a4) S14 v0 v1 v3 1 v2)))
def f_X11_keepers (F : Nat) (S0 : St) (p0 : Nat) (p1 : Int32) : Option (Int32 × St) :=
  f_X11_keepers_L4 F F S0 p0 p1 0 0
def f_X11_buryParts_L77 (F : Nat) (k11 : St → Nat → Int32 → Int32 → Option (St)) (S0 : St) (v0 : Nat) (v1 : Int32) (v2 : Int32) : Option (St) :=
  lt (v2 + 1) fun x1 =>
  k11 S0 v0 v1 x1
def f_X11_buryParts_L11 (F : Nat) : Nat → St → Nat → Int32 → Int32 → Option (St)
  | 0, _, _, _, _ => none
  | fu + 1, S0, v0, v1, v2 =>
    Option.bind (sr S0 1001 v0) fun j3 =>
    cki 8 (ln S0 j3) <|
    if (ai S0 j3 (Int32.toNatClampNeg 8)) ≤ v2 then
    (some S0)
    else
    (Option.bind (f_X11_has F S0 v0 v1 v2) fun z6 => lt z6.1 fun r8 => lt z6.2 fun S7 =>
    if r8 = 0 then
    (f_X11_buryParts_L77 F (fun a0 a1 a2 a3 => f_X11_buryParts_L11 F fu a0 a1 a2 a3) S7 v0 v1 v2)
    else
    (Option.bind (f_X11_isDead F S7 v0 v2) fun z11 => lt z11.1 fun r13 => lt z11.2 fun S12 =>
    if ¬ r13 = 0 then
    (f_X11_buryParts_L77 F (fun a0 a1 a2 a3 => f_X11_buryParts_L11 F fu a0 a1 a2 a3) S12 v0 v1 v2)
    else
    (Option.bind (f_X11_keepers F S12 v0 v2) fun z16 => lt z16.1 fun r18 => lt z16.2 fun S17 =>
    if r18 ≤ 0 then
    (Option.bind (sr S17 1001 v0) fun j21 =>
    Option.bind (sr S17 1001 v0) fun j22 =>
    cki 2 (ln S17 j22) <|
    cki ((4771 + (3 * v2)) + 2) (ln S17 j21) <|
    lt (uai S17 j21 (Int32.toNatClampNeg ((4771 + (3 * v2)) + 2)) (ai S17 j22 (Int32.toNatClampNeg 2))) fun S25 =>
    Option.bind (f_X11_log F S25 v0 ((6 : Int32)) v2) fun S27 =>
    f_X11_buryParts_L77 F (fun a0 a1 a2 a3 => f_X11_buryParts_L11 F fu a0 a1 a2 a3) S27 v0 v1 v2)
    else
    (f_X11_buryParts_L77 F (fun a0 a1 a2 a3 => f_X11_buryParts_L11 F fu a0 a1 a2 a3) S17 v0 v1 v2))))
def f_X11_buryParts (F : Nat) (S0 : St) (p0 : Nat) (p1 : Int32) : Option (St) :=
  Option.bind (f_X11_isKeptMessage F S0 p0 p1) fun z57 => lt z57.1 fun r59 => lt z57.2 fun S58 =>
  if r59 = 0 then
  (f_X11_buryParts_L11 F F S58 p0 p1 0)
  else
  (some S58)
def f_X11_ceases_L49 (F : Nat) (S0 : St) (v0 : Nat) (v1 : Int32) (v2 : Int32) (s0 : Int32) (s1 : Nat) : Option (Int32 × St) :=
  Option.bind (f_X11_log F S0 s1 s0 v1) fun S2 =>
  Option.bind (f_X11_buryParts F S2 v0 v1) fun S6 =>
  Option.bind (f_X11_stateOf F S6 v0 v1 v2) fun z9 => lt z9.1 fun r11 => lt z9.2 fun S10 =>
  some (r11, S10)
def f_X11_ceases_L37 (F : Nat) (S0 : St) (v0 : Nat) (v1 : Int32) (v2 : Int32) (v4 : Int32) (s0 : Int32) (s1 : Int32) (s2 : Nat) : Option (Int32 × St) :=
  cki s1 (ln S0 s2) <|
  lt (uai S0 s2 (Int32.toNatClampNeg s1) s0) fun S26 =>
  if v4 = 0 then
  (f_X11_ceases_L49 F S26 v0 v1 v2 4 v0)
  else
  (f_X11_ceases_L49 F S26 v0 v1 v2 5 v0)
def f_X11_ceases_L14 (F : Nat) (S0 : St) (v0 : Nat) (v1 : Int32) (v2 : Int32) (v3 : Int32) (s0 : Int32) : Option (Int32 × St) :=
  Option.bind (sr S0 1001 v0) fun j31 =>
  Option.bind (f_X11_refAt F S0 v1 v2) fun z32 => lt z32.1 fun r34 => lt z32.2 fun S33 =>
  if s0 = 0 then
  (f_X11_ceases_L37 F S33 v0 v1 v2 s0 3 (r34 + 0) j31)
  else
  (f_X11_ceases_L37 F S33 v0 v1 v2 s0 v3 (r34 + 0) j31)
def f_X11_ceases (F : Nat) (S0 : St) (p0 : Nat) (p1 : Int32) (p2 : Int32) (p3 : Int32) : Option (Int32 × St) :=
  Option.bind (f_X11_covers F S0 p0 p1 p2) fun z43 => lt z43.1 fun r45 => lt z43.2 fun S44 =>
  if r45 = 0 then
  (f_X11_ceases_L14 F S44 p0 p1 p2 p3 0)
  else
  (f_X11_ceases_L14 F S44 p0 p1 p2 p3 1)
def f_X11_cutInput_L58 (F : Nat) (k14 : St → Nat → Int32 → Option (St)) (S0 : St) (v0 : Nat) (v1 : Int32) : Option (St) :=
  lt (v1 + 1) fun x1 =>
  k14 S0 v0 x1
def f_X11_cutInput_L14 (F : Nat) : Nat → St → Nat → Int32 → Option (St)
  | 0, _, _, _ => none
  | fu + 1, S0, v0, v1 =>
    if (si S0 1007 v0) ≤ v1 then
    (Option.bind (sr S0 1017 v0) fun j4 =>
    cki (si S0 1018 v0) (ln S0 j4) <|
    lt (uai S0 j4 (Int32.toNatClampNeg (si S0 1018 v0)) ((si S0 1007 v0) + 1)) fun S6 =>
    some S6)
    else
    (Option.bind (sr S0 1006 v0) fun j7 =>
    cki v1 (ln S0 j7) <|
    if (ai S0 j7 (Int32.toNatClampNeg v1)) = 124 then
    (Option.bind (sr S0 1017 v0) fun j10 =>
    cki (si S0 1018 v0) (ln S0 j10) <|
    lt (uai S0 j10 (Int32.toNatClampNeg (si S0 1018 v0)) (v1 + 1)) fun S12 =>
    lt (ui S12 1018 v0 ((si S12 1018 v0) + 1)) fun S13 =>
    f_X11_cutInput_L58 F (fun a0 a1 a2 => f_X11_cutInput_L14 F fu a0 a1 a2) S13 v0 v1)
    else
    (f_X11_cutInput_L58 F (fun a0 a1 a2 => f_X11_cutInput_L14 F fu a0 a1 a2) S0 v0 v1))
def f_X11_cutInput (F : Nat) (S0 : St) (p0 : Nat) : Option (St) :=
  lt (ui S0 1018 p0 1) fun S25 =>
  Option.bind (sr S25 1017 p0) fun j26 =>
  cki 0 (ln S25 j26) <|
  lt (uai S25 j26 (Int32.toNatClampNeg 0) 0) fun S28 =>
  f_X11_cutInput_L14 F F S28 p0 0
def f_X11_lengthIn (F : Nat) (S0 : St) (p0 : Nat) (p1 : Int32) : Option (Int32 × St) :=
  Option.bind (sr S0 1017 p0) fun j1 =>
  cki (p1 + 1) (ln S0 j1) <|
  Option.bind (sr S0 1017 p0) fun j3 =>
  cki p1 (ln S0 j3) <|
  some (((ai S0 j1 (Int32.toNatClampNeg (p1 + 1))) - (ai S0 j3 (Int32.toNatClampNeg p1))) - 1, S0)
def f_X11_isContent_L20 (F : Nat) : Nat → St → Nat → Int32 → Int32 → Option (Int32 × St)
  | 0, _, _, _, _ => none
  | fu + 1, S0, v0, v1, v2 =>
    if (si S0 1018 v0) ≤ v2 then
    (ck (v1 = 0 ∨ v1 = 1) <| some (v1, S0))
    else
    (if v1 = 0 then
    (ck (v1 = 0 ∨ v1 = 1) <| some (v1, S0))
    else
    (Option.bind (f_X11_lengthIn F S0 v0 v2) fun z5 => lt z5.1 fun r7 => lt z5.2 fun S6 =>
    Option.bind (f_X11_in F S6 r7.toInt64 ((1 : Int64)) (((200) : Int64))) fun z9 => lt z9.1 fun r11 => lt z9.2 fun S10 =>
    lt (v2 + 1) fun x13 =>
    (fun a0 a1 a2 a3 => f_X11_isContent_L20 F fu a0 a1 a2 a3) S10 v0 r11 x13))
def f_X11_isContent_L17 (F : Nat) (S0 : St) (v0 : Nat) (s0 : Int32) : Option (Int32 × St) :=
  f_X11_isContent_L20 F F S0 v0 s0 0
def f_X11_isContent (F : Nat) (S0 : St) (p0 : Nat) : Option (Int32 × St) :=
  Option.bind (f_X11_cutInput F S0 p0) fun S28 =>
  if 4 < (si S28 1018 p0) then
  (f_X11_isContent_L17 F S28 p0 0)
  else
  (f_X11_isContent_L17 F S28 p0 1)
def f_X11_storedLike_L94 (F : Nat) (k2 : St → Nat → Int32 → Int32 → Option (Int32 × St)) (S0 : St) (v0 : Nat) (v1 : Int32) (v2 : Int32) (v3 : Int32) : Option (Int32 × St) :=
  if v3 = 0 then
  (lt (v2 + 1) fun x2 =>
  k2 S0 v0 v1 x2)
  else
  (some (v2, S0))
def f_X11_storedLike_L87 (F : Nat) (k2 : St → Nat → Int32 → Int32 → Option (Int32 × St)) (k44 : St → Nat → Int32 → Int32 → Int32 → Int32 → Option (Int32 × St)) (S0 : St) (v0 : Nat) (v1 : Int32) (v2 : Int32) (v4 : Int32) (s0 : Int32) : Option (Int32 × St) :=
  lt (v4 + 1) fun x5 =>
  k44 S0 v0 v1 v2 s0 x5
def f_X11_storedLike_L44 (F : Nat) (k2 : St → Nat → Int32 → Int32 → Option (Int32 × St)) : Nat → St → Nat → Int32 → Int32 → Int32 → Int32 → Option (Int32 × St)
  | 0, _, _, _, _, _, _ => none
  | fu + 1, S0, v0, v1, v2, v3, v4 =>
    Option.bind (f_X11_lengthIn F S0 v0 v1) fun z7 => lt z7.1 fun r9 => lt z7.2 fun S8 =>
    if r9 ≤ v4 then
    (f_X11_storedLike_L94 F k2 S8 v0 v1 v2 v3)
    else
    (if v3 = 0 then
    (f_X11_storedLike_L94 F k2 S8 v0 v1 v2 v3)
    else
    (Option.bind (f_X11_partByteAt F S8 v0 v2 v4) fun z13 => lt z13.1 fun r15 => lt z13.2 fun S14 =>
    Option.bind (sr S14 1006 v0) fun j17 =>
    Option.bind (sr S14 1017 v0) fun j18 =>
    cki v1 (ln S14 j18) <|
    cki ((ai S14 j18 (Int32.toNatClampNeg v1)) + v4) (ln S14 j17) <|
    if ¬ r15 = (ai S14 j17 (Int32.toNatClampNeg ((ai S14 j18 (Int32.toNatClampNeg v1)) + v4))) then
    (f_X11_storedLike_L87 F k2 (fun a0 a1 a2 a3 a4 a5 => f_X11_storedLike_L44 F k2 fu a0 a1 a2 a3 a4 a5) S14 v0 v1 v2 v4 0)
    else
    (f_X11_storedLike_L87 F k2 (fun a0 a1 a2 a3 a4 a5 => f_X11_storedLike_L44 F k2 fu a0 a1 a2 a3 a4 a5) S14 v0 v1 v2 v4 1)))
def f_X11_storedLike_L40 (F : Nat) (k2 : St → Nat → Int32 → Int32 → Option (Int32 × St)) (S0 : St) (v0 : Nat) (v1 : Int32) (v2 : Int32) (s0 : Int32) : Option (Int32 × St) :=
  f_X11_storedLike_L44 F k2 F S0 v0 v1 v2 s0 0
def f_X11_storedLike_L39 (F : Nat) (k2 : St → Nat → Int32 → Int32 → Option (Int32 × St)) (S0 : St) (v0 : Nat) (v1 : Int32) (v2 : Int32) : Option (Int32 × St) :=
  f_X11_storedLike_L40 F k2 S0 v0 v1 v2 0
def f_X11_storedLike_L2 (F : Nat) : Nat → St → Nat → Int32 → Int32 → Option (Int32 × St)
  | 0, _, _, _, _ => none
  | fu + 1, S0, v0, v1, v2 =>
    Option.bind (sr S0 1001 v0) fun j37 =>
    cki 8 (ln S0 j37) <|
    if (ai S0 j37 (Int32.toNatClampNeg 8)) ≤ v2 then
    (some ((-1), S0))
    else
    (Option.bind (f_X11_isStored F S0 v0 v2) fun z40 => lt z40.1 fun r42 => lt z40.2 fun S41 =>
    if r42 = 0 then
    (f_X11_storedLike_L39 F (fun a0 a1 a2 a3 => f_X11_storedLike_L2 F fu a0 a1 a2 a3) S41 v0 v1 v2)
    else
    (Option.bind (f_X11_partValue F S41 v0 v2 ((0 : Int32))) fun z45 => lt z45.1 fun r47 => lt z45.2 fun S46 =>
    Option.bind (f_X11_lengthIn F S46 v0 v1) fun z49 => lt z49.1 fun r51 => lt z49.2 fun S50 =>
    if ¬ r47 = r51 then
    (f_X11_storedLike_L39 F (fun a0 a1 a2 a3 => f_X11_storedLike_L2 F fu a0 a1 a2 a3) S50 v0 v1 v2)
    else
    (f_X11_storedLike_L40 F (fun a0 a1 a2 a3 => f_X11_storedLike_L2 F fu a0 a1 a2 a3) S50 v0 v1 v2 1)))
def f_X11_storedLike (F : Nat) (S0 : St) (p0 : Nat) (p1 : Int32) : Option (Int32 × St) :=
  f_X11_storedLike_L2 F F S0 p0 p1 0
def f_X11_areSame_L72 (F : Nat) (k22 : St → Nat → Int32 → Int32 → Int32 → Int32 → Option (Int32 × St)) (S0 : St) (v0 : Nat) (v1 : Int32) (v2 : Int32) (v4 : Int32) (s0 : Int32) : Option (Int32 × St) :=
  lt (v4 + 1) fun x1 =>
  k22 S0 v0 v1 v2 s0 x1
def f_X11_areSame_L22 (F : Nat) : Nat → St → Nat → Int32 → Int32 → Int32 → Int32 → Option (Int32 × St)
  | 0, _, _, _, _, _, _ => none
  | fu + 1, S0, v0, v1, v2, v3, v4 =>
    Option.bind (f_X11_lengthIn F S0 v0 v1) fun z3 => lt z3.1 fun r5 => lt z3.2 fun S4 =>
    if r5 ≤ v4 then
    (ck (v3 = 0 ∨ v3 = 1) <| some (v3, S4))
    else
    (if v3 = 0 then
    (ck (v3 = 0 ∨ v3 = 1) <| some (v3, S4))
    else
    (Option.bind (sr S4 1006 v0) fun j11 =>
    Option.bind (sr S4 1017 v0) fun j12 =>
    cki v1 (ln S4 j12) <|
    cki ((ai S4 j12 (Int32.toNatClampNeg v1)) + v4) (ln S4 j11) <|
    Option.bind (sr S4 1006 v0) fun j15 =>
    Option.bind (sr S4 1017 v0) fun j16 =>
    cki v2 (ln S4 j16) <|
    cki ((ai S4 j16 (Int32.toNatClampNeg v2)) + v4) (ln S4 j15) <|
    if ¬ (ai S4 j11 (Int32.toNatClampNeg ((ai S4 j12 (Int32.toNatClampNeg v1)) + v4))) = (ai S4 j15 (Int32.toNatClampNeg ((ai S4 j16 (Int32.toNatClampNeg v2)) + v4))) then
    (f_X11_areSame_L72 F (fun a0 a1 a2 a3 a4 a5 => f_X11_areSame_L22 F fu a0 a1 a2 a3 a4 a5) S4 v0 v1 v2 v4 0)
    else
    (f_X11_areSame_L72 F (fun a0 a1 a2 a3 a4 a5 => f_X11_areSame_L22 F fu a0 a1 a2 a3 a4 a5) S4 v0 v1 v2 v4 1)))
def f_X11_areSame_L18 (F : Nat) (S0 : St) (v0 : Nat) (v1 : Int32) (v2 : Int32) (s0 : Int32) : Option (Int32 × St) :=
  f_X11_areSame_L22 F F S0 v0 v1 v2 s0 0
def f_X11_areSame (F : Nat) (S0 : St) (p0 : Nat) (p1 : Int32) (p2 : Int32) : Option (Int32 × St) :=
  Option.bind (f_X11_lengthIn F S0 p0 p1) fun z37 => lt z37.1 fun r39 => lt z37.2 fun S38 =>
  Option.bind (f_X11_lengthIn F S38 p0 p2) fun z41 => lt z41.1 fun r43 => lt z41.2 fun S42 =>
  if ¬ r39 = r43 then
  (f_X11_areSame_L18 F S42 p0 p1 p2 0)
  else
  (f_X11_areSame_L18 F S42 p0 p1 p2 1)
def f_X11_stored_L34 (F : Nat) (k4 : St → Nat → Int32 → Int32 → Option (Int32 × St)) (S0 : St) (v0 : Nat) (v2 : Int32) (s0 : Int32) (s1 : Int32) : Option (Int32 × St) :=
  lt (s1 + s0) fun x1 =>
  lt (v2 + 1) fun x2 =>
  k4 S0 v0 x1 x2
def f_X11_stored_L4 (F : Nat) : Nat → St → Nat → Int32 → Int32 → Option (Int32 × St)
  | 0, _, _, _, _ => none
  | fu + 1, S0, v0, v1, v2 =>
    Option.bind (sr S0 1001 v0) fun j5 =>
    cki 8 (ln S0 j5) <|
    if (ai S0 j5 (Int32.toNatClampNeg 8)) ≤ v2 then
    (some (v1, S0))
    else
    (Option.bind (f_X11_isStored F S0 v0 v2) fun z8 => lt z8.1 fun r10 => lt z8.2 fun S9 =>
    if r10 = 0 then
    (f_X11_stored_L34 F (fun a0 a1 a2 a3 => f_X11_stored_L4 F fu a0 a1 a2 a3) S9 v0 v2 0 v1)
    else
    (Option.bind (f_X11_partValue F S9 v0 v2 ((0 : Int32))) fun z13 => lt z13.1 fun r15 => lt z13.2 fun S14 =>
    f_X11_stored_L34 F (fun a0 a1 a2 a3 => f_X11_stored_L4 F fu a0 a1 a2 a3) S14 v0 v2 r15 v1))
def f_X11_stored (F : Nat) (S0 : St) (p0 : Nat) : Option (Int32 × St) :=
  f_X11_stored_L4 F F S0 p0 0 0
def f_X11_hasRoom_L79 (F : Nat) (k7 : St → Nat → Int32 → Int32 → Option (Int32 × St)) (S0 : St) (v0 : Nat) (v2 : Int32) (s0 : Int32) (s1 : Int32) : Option (Int32 × St) :=
  lt (s1 + s0) fun x1 =>
  lt (v2 + 1) fun x2 =>
  k7 S0 v0 x1 x2
def f_X11_hasRoom_L65 (F : Nat) (k7 : St → Nat → Int32 → Int32 → Option (Int32 × St)) (S0 : St) (v0 : Nat) (v1 : Int32) (v2 : Int32) (v3 : Int32) : Option (Int32 × St) :=
  if v3 = 0 then
  (f_X11_hasRoom_L79 F k7 S0 v0 v2 0 v1)
  else
  (Option.bind (f_X11_lengthIn F S0 v0 v2) fun z6 => lt z6.1 fun r8 => lt z6.2 fun S7 =>
  f_X11_hasRoom_L79 F k7 S7 v0 v2 r8 v1)
def f_X11_hasRoom_L58 (F : Nat) (k7 : St → Nat → Int32 → Int32 → Option (Int32 × St)) (k33 : St → Nat → Int32 → Int32 → Int32 → Int32 → Option (Int32 × St)) (S0 : St) (v0 : Nat) (v1 : Int32) (v2 : Int32) (v4 : Int32) (s0 : Int32) : Option (Int32 × St) :=
  lt (v4 + 1) fun x15 =>
  k33 S0 v0 v1 v2 s0 x15
def f_X11_hasRoom_L33 (F : Nat) (k7 : St → Nat → Int32 → Int32 → Option (Int32 × St)) : Nat → St → Nat → Int32 → Int32 → Int32 → Int32 → Option (Int32 × St)
  | 0, _, _, _, _, _, _ => none
  | fu + 1, S0, v0, v1, v2, v3, v4 =>
    if v2 ≤ v4 then
    (f_X11_hasRoom_L65 F k7 S0 v0 v1 v2 v3)
    else
    (if v3 = 0 then
    (f_X11_hasRoom_L65 F k7 S0 v0 v1 v2 v3)
    else
    (Option.bind (f_X11_areSame F S0 v0 v2 v4) fun z19 => lt z19.1 fun r21 => lt z19.2 fun S20 =>
    if ¬ r21 = 0 then
    (f_X11_hasRoom_L58 F k7 (fun a0 a1 a2 a3 a4 a5 => f_X11_hasRoom_L33 F k7 fu a0 a1 a2 a3 a4 a5) S20 v0 v1 v2 v4 0)
    else
    (f_X11_hasRoom_L58 F k7 (fun a0 a1 a2 a3 a4 a5 => f_X11_hasRoom_L33 F k7 fu a0 a1 a2 a3 a4 a5) S20 v0 v1 v2 v4 1)))
def f_X11_hasRoom_L29 (F : Nat) (k7 : St → Nat → Int32 → Int32 → Option (Int32 × St)) (S0 : St) (v0 : Nat) (v1 : Int32) (v2 : Int32) (s0 : Int32) : Option (Int32 × St) :=
  f_X11_hasRoom_L33 F k7 F S0 v0 v1 v2 s0 0
def f_X11_hasRoom_L7 (F : Nat) : Nat → St → Nat → Int32 → Int32 → Option (Int32 × St)
  | 0, _, _, _, _ => none
  | fu + 1, S0, v0, v1, v2 =>
    if (si S0 1018 v0) ≤ v2 then
    (if 8000 < v1 then
    (some (0, S0))
    else
    (some (1, S0)))
    else
    (Option.bind (f_X11_storedLike F S0 v0 v2) fun z33 => lt z33.1 fun r35 => lt z33.2 fun S34 =>
    if ¬ r35 = ((-1)) then
    (f_X11_hasRoom_L29 F (fun a0 a1 a2 a3 => f_X11_hasRoom_L7 F fu a0 a1 a2 a3) S34 v0 v1 v2 0)
    else
    (f_X11_hasRoom_L29 F (fun a0 a1 a2 a3 => f_X11_hasRoom_L7 F fu a0 a1 a2 a3) S34 v0 v1 v2 1))
def f_X11_hasRoom (F : Nat) (S0 : St) (p0 : Nat) : Option (Int32 × St) :=
  Option.bind (f_X11_stored F S0 p0) fun z45 => lt z45.1 fun r47 => lt z45.2 fun S46 =>
  f_X11_hasRoom_L7 F F S46 p0 r47 0
def f_X11_sizeOf_L4 (F : Nat) : Nat → St → Nat → Int32 → Int32 → Int32 → Option (Int32 × St)
  | 0, _, _, _, _, _ => none
  | fu + 1, S0, v0, v1, v2, v3 =>
    Option.bind (f_X11_messageValue F S0 v0 v1 ((2 : Int32))) fun z1 => lt z1.1 fun r3 => lt z1.2 fun S2 =>
    if r3 ≤ v3 then
    (some (v2, S2))
    else
    (Option.bind (f_X11_messageValue F S2 v0 v1 (3 + v3)) fun z6 => lt z6.1 fun r8 => lt z6.2 fun S7 =>
    Option.bind (f_X11_partValue F S7 v0 r8 ((0 : Int32))) fun z10 => lt z10.1 fun r12 => lt z10.2 fun S11 =>
    lt (v2 + r12) fun x14 =>
    lt (v3 + 1) fun x15 =>
    (fun a0 a1 a2 a3 a4 => f_X11_sizeOf_L4 F fu a0 a1 a2 a3 a4) S11 v0 v1 x14 x15)
def f_X11_sizeOf (F : Nat) (S0 : St) (p0 : Nat) (p1 : Int32) : Option (Int32 × St) :=
  f_X11_sizeOf_L4 F F S0 p0 p1 0 0
def f_X11_usageOf_L34 (F : Nat) (k4 : St → Nat → Int32 → Int32 → Int32 → Option (Int32 × St)) (S0 : St) (v0 : Nat) (v1 : Int32) (v3 : Int32) (s0 : Int32) (s1 : Int32) : Option (Int32 × St) :=
  lt (s1 + s0) fun x1 =>
  lt (v3 + 1) fun x2 =>
  k4 S0 v0 v1 x1 x2
def f_X11_usageOf_L4 (F : Nat) : Nat → St → Nat → Int32 → Int32 → Int32 → Option (Int32 × St)
  | 0, _, _, _, _, _ => none
  | fu + 1, S0, v0, v1, v2, v3 =>
    Option.bind (sr S0 1001 v0) fun j5 =>
    cki 7 (ln S0 j5) <|
    if (ai S0 j5 (Int32.toNatClampNeg 7)) ≤ v3 then
    (some (v2, S0))
    else
    (Option.bind (f_X11_isLive F S0 v0 v3 v1) fun z8 => lt z8.1 fun r10 => lt z8.2 fun S9 =>
    if r10 = 0 then
    (f_X11_usageOf_L34 F (fun a0 a1 a2 a3 a4 => f_X11_usageOf_L4 F fu a0 a1 a2 a3 a4) S9 v0 v1 v3 0 v2)
    else
    (Option.bind (f_X11_sizeOf F S9 v0 v3) fun z13 => lt z13.1 fun r15 => lt z13.2 fun S14 =>
    f_X11_usageOf_L34 F (fun a0 a1 a2 a3 a4 => f_X11_usageOf_L4 F fu a0 a1 a2 a3 a4) S14 v0 v1 v3 r15 v2))
def f_X11_usageOf (F : Nat) (S0 : St) (p0 : Nat) (p1 : Int32) : Option (Int32 × St) :=
  f_X11_usageOf_L4 F F S0 p0 p1 0 0
def f_X11_storePart_L59 (F : Nat) : Nat → St → Nat → Int32 → Int32 → Int32 → Option (Int32 × St)
  | 0, _, _, _, _, _ => none
  | fu + 1, S0, v0, v1, v2, v3 =>
    Option.bind (f_X11_lengthIn F S0 v0 v1) fun z1 => lt z1.1 fun r3 => lt z1.2 fun S2 =>
    if r3 ≤ v3 then
    (Option.bind (sr S2 1001 v0) fun j6 =>
    cki 8 (ln S2 j6) <|
    cki 8 (ln S2 j6) <|
    lt (uai S2 j6 (Int32.toNatClampNeg 8) ((ai S2 j6 (Int32.toNatClampNeg 8)) + 1)) fun S9 =>
    some (v2, S9))
    else
    (Option.bind (sr S2 1003 v0) fun j10 =>
    Option.bind (sr S2 1006 v0) fun j11 =>
    Option.bind (sr S2 1017 v0) fun j12 =>
    cki v1 (ln S2 j12) <|
    cki ((ai S2 j12 (Int32.toNatClampNeg v1)) + v3) (ln S2 j11) <|
    cki ((200 * v2) + v3) (ln S2 j10) <|
    lt (uai S2 j10 (Int32.toNatClampNeg ((200 * v2) + v3)) (Int32.toInt8 (ai S2 j11 (Int32.toNatClampNeg ((ai S2 j12 (Int32.toNatClampNeg v1)) + v3)))).toInt32) fun S16 =>
    lt (v3 + 1) fun x17 =>
    (fun a0 a1 a2 a3 a4 => f_X11_storePart_L59 F fu a0 a1 a2 a3 a4) S16 v0 v1 v2 x17)
def f_X11_storePart (F : Nat) (S0 : St) (p0 : Nat) (p1 : Int32) : Option (Int32 × St) :=
  Option.bind (sr S0 1001 p0) fun j35 =>
  cki 8 (ln S0 j35) <|
  lt (ai S0 j35 (Int32.toNatClampNeg 8)) fun x37 =>
  Option.bind (sr S0 1001 p0) fun j38 =>
  Option.bind (f_X11_lengthIn F S0 p0 p1) fun z39 => lt z39.1 fun r41 => lt z39.2 fun S40 =>
  cki ((4771 + (3 * x37)) + 0) (ln S40 j38) <|
  lt (uai S40 j38 (Int32.toNatClampNeg ((4771 + (3 * x37)) + 0)) r41) fun S44 =>
  Option.bind (sr S44 1001 p0) fun j45 =>
  cki ((4771 + (3 * x37)) + 1) (ln S44 j45) <|
  lt (uai S44 j45 (Int32.toNatClampNeg ((4771 + (3 * x37)) + 1)) 1) fun S47 =>
  Option.bind (sr S47 1001 p0) fun j48 =>
  cki ((4771 + (3 * x37)) + 2) (ln S47 j48) <|
  lt (uai S47 j48 (Int32.toNatClampNeg ((4771 + (3 * x37)) + 2)) ((-1))) fun S50 =>
  f_X11_storePart_L59 F F S50 p0 p1 x37 0
def f_X11_storeParts_L60 (F : Nat) (k2 : St → Nat → Int32 → Int32 → Option (St)) (S0 : St) (v0 : Nat) (v1 : Int32) (v2 : Int32) (v3 : Int32) : Option (St) :=
  Option.bind (sr S0 1001 v0) fun j1 =>
  cki (((331 + (7 * v1)) + 3) + v2) (ln S0 j1) <|
  lt (uai S0 j1 (Int32.toNatClampNeg (((331 + (7 * v1)) + 3) + v2)) v3) fun S3 =>
  lt (v2 + 1) fun x4 =>
  k2 S3 v0 v1 x4
def f_X11_storeParts_L2 (F : Nat) : Nat → St → Nat → Int32 → Int32 → Option (St)
  | 0, _, _, _, _ => none
  | fu + 1, S0, v0, v1, v2 =>
    if (si S0 1018 v0) ≤ v2 then
    (some S0)
    else
    (Option.bind (f_X11_storedLike F S0 v0 v2) fun z10 => lt z10.1 fun r12 => lt z10.2 fun S11 =>
    if ¬ r12 = ((-1)) then
    (Option.bind (f_X11_isDead F S11 v0 r12) fun z15 => lt z15.1 fun r17 => lt z15.2 fun S16 =>
    if r17 = 0 then
    (f_X11_storeParts_L60 F (fun a0 a1 a2 a3 => f_X11_storeParts_L2 F fu a0 a1 a2 a3) S16 v0 v1 v2 r12)
    else
    (Option.bind (sr S16 1001 v0) fun j20 =>
    cki ((4771 + (3 * r12)) + 2) (ln S16 j20) <|
    lt (uai S16 j20 (Int32.toNatClampNeg ((4771 + (3 * r12)) + 2)) ((-1))) fun S22 =>
    Option.bind (f_X11_log F S22 v0 ((7 : Int32)) r12) fun S24 =>
    f_X11_storeParts_L60 F (fun a0 a1 a2 a3 => f_X11_storeParts_L2 F fu a0 a1 a2 a3) S24 v0 v1 v2 r12))
    else
    (Option.bind (f_X11_storePart F S11 v0 v2) fun z27 => lt z27.1 fun r29 => lt z27.2 fun S28 =>
    f_X11_storeParts_L60 F (fun a0 a1 a2 a3 => f_X11_storeParts_L2 F fu a0 a1 a2 a3) S28 v0 v1 v2 r29))
def f_X11_storeParts (F : Nat) (S0 : St) (p0 : Nat) (p1 : Int32) : Option (St) :=
  f_X11_storeParts_L2 F F S0 p0 p1 0
def f_X11_everyUser (F : Nat) (S0 : St) (p0 : Nat) : Option (Int32 × St) :=
  Option.bind (sr S0 1001 p0) fun j1 =>
  cki 4 (ln S0 j1) <|
  some ((1 <<< ((ai S0 j1 (Int32.toNatClampNeg 4)) &&& 31)) - 1, S0)
def f_X11_areUsers (F : Nat) (S0 : St) (p0 : Nat) (p1 : Int32) : Option (Int32 × St) :=
  Option.bind (f_X11_everyUser F S0 p0) fun z1 => lt z1.1 fun r3 => lt z1.2 fun S2 =>
  if ¬ (p1 &&& (r3 ^^^ ((-1)))) = 0 then
  (some (0, S2))
  else
  (some (1, S2))
def f_X11_sizeIn_L4 (F : Nat) : Nat → St → Nat → Int32 → Int32 → Option (Int32 × St)
  | 0, _, _, _, _ => none
  | fu + 1, S0, v0, v1, v2 =>
    if (si S0 1018 v0) ≤ v2 then
    (some (v1, S0))
    else
    (Option.bind (f_X11_lengthIn F S0 v0 v2) fun z2 => lt z2.1 fun r4 => lt z2.2 fun S3 =>
    lt (v1 + r4) fun x6 =>
    lt (v2 + 1) fun x7 =>
    (fun a0 a1 a2 a3 => f_X11_sizeIn_L4 F fu a0 a1 a2 a3) S3 v0 x6 x7)
def f_X11_sizeIn (F : Nat) (S0 : St) (p0 : Nat) : Option (Int32 × St) :=
  f_X11_sizeIn_L4 F F S0 p0 0 0
def f_X11_storeMessage_L136 (F : Nat) (k64 : St → Nat → Int32 → Int32 → Int32 → Int32 → Option (St)) (S0 : St) (v0 : Nat) (v1 : Int32) (v3 : Int32) (v4 : Int32) (v5 : Int32) (s0 : Int32) (s1 : Int32) (s2 : Nat) : Option (St) :=
  cki s1 (ln S0 s2) <|
  lt (uai S0 s2 (Int32.toNatClampNeg s1) s0) fun S2 =>
  Option.bind (sr S2 1001 v0) fun j3 =>
  Option.bind (f_X11_refAt F S2 v1 v5) fun z4 => lt z4.1 fun r6 => lt z4.2 fun S5 =>
  Option.bind (sr S5 1001 v0) fun j8 =>
  cki 2 (ln S5 j8) <|
  cki (r6 + 2) (ln S5 j3) <|
  lt (uai S5 j3 (Int32.toNatClampNeg (r6 + 2)) (ai S5 j8 (Int32.toNatClampNeg 2))) fun S11 =>
  lt (v5 + 1) fun x12 =>
  k64 S11 v0 v1 v3 v4 x12
def f_X11_storeMessage_L97 (F : Nat) (k64 : St → Nat → Int32 → Int32 → Int32 → Int32 → Option (St)) (S0 : St) (v0 : Nat) (v1 : Int32) (v3 : Int32) (v4 : Int32) (v5 : Int32) (s0 : Int32) (s1 : Int32) (s2 : Nat) : Option (St) :=
  cki s1 (ln S0 s2) <|
  lt (uai S0 s2 (Int32.toNatClampNeg s1) s0) fun S26 =>
  Option.bind (sr S26 1001 v0) fun j27 =>
  Option.bind (f_X11_refAt F S26 v1 v5) fun z28 => lt z28.1 fun r30 => lt z28.2 fun S29 =>
  if ¬ v4 = ((-1)) then
  (f_X11_storeMessage_L136 F k64 S29 v0 v1 v3 v4 v5 v4 (r30 + 1) j27)
  else
  (Option.bind (sr S29 1001 v0) fun j33 =>
  cki ((83 + (8 * v5)) + 0) (ln S29 j33) <|
  f_X11_storeMessage_L136 F k64 S29 v0 v1 v3 v4 v5 (ai S29 j33 (Int32.toNatClampNeg ((83 + (8 * v5)) + 0))) (r30 + 1) j27)
def f_X11_storeMessage_L64 (F : Nat) : Nat → St → Nat → Int32 → Int32 → Int32 → Int32 → Option (St)
  | 0, _, _, _, _, _, _ => none
  | fu + 1, S0, v0, v1, v3, v4, v5 =>
    if 10 ≤ v5 then
    (Option.bind (sr S0 1001 v0) fun j46 =>
    cki 7 (ln S0 j46) <|
    cki 7 (ln S0 j46) <|
    lt (uai S0 j46 (Int32.toNatClampNeg 7) ((ai S0 j46 (Int32.toNatClampNeg 7)) + 1)) fun S49 =>
    Option.bind (f_X11_log F S49 v0 ((1 : Int32)) v1) fun S51 =>
    some S51)
    else
    (Option.bind (sr S0 1001 v0) fun j54 =>
    Option.bind (f_X11_refAt F S0 v1 v5) fun z55 => lt z55.1 fun r57 => lt z55.2 fun S56 =>
    Option.bind (f_X11_hasBit F S56 v3 v5) fun z59 => lt z59.1 fun r61 => lt z59.2 fun S60 =>
    if r61 = 0 then
    (f_X11_storeMessage_L97 F (fun a0 a1 a2 a3 a4 a5 => f_X11_storeMessage_L64 F fu a0 a1 a2 a3 a4 a5) S60 v0 v1 v3 v4 v5 ((-1)) (r57 + 0) j54)
    else
    (f_X11_storeMessage_L97 F (fun a0 a1 a2 a3 a4 a5 => f_X11_storeMessage_L64 F fu a0 a1 a2 a3 a4 a5) S60 v0 v1 v3 v4 v5 0 (r57 + 0) j54))
def f_X11_storeMessage (F : Nat) (S0 : St) (p0 : Nat) (p1 : Int32) (p2 : Int32) (p3 : Int32) (p4 : Int32) : Option (St) :=
  Option.bind (f_X11_storeParts F S0 p0 p1) fun S84 =>
  Option.bind (sr S84 1001 p0) fun j87 =>
  cki ((331 + (7 * p1)) + 0) (ln S84 j87) <|
  lt (uai S84 j87 (Int32.toNatClampNeg ((331 + (7 * p1)) + 0)) p2) fun S89 =>
  Option.bind (sr S89 1001 p0) fun j90 =>
  Option.bind (sr S89 1001 p0) fun j91 =>
  cki 2 (ln S89 j91) <|
  cki ((331 + (7 * p1)) + 1) (ln S89 j90) <|
  lt (uai S89 j90 (Int32.toNatClampNeg ((331 + (7 * p1)) + 1)) (ai S89 j91 (Int32.toNatClampNeg 2))) fun S94 =>
  Option.bind (sr S94 1001 p0) fun j95 =>
  cki ((331 + (7 * p1)) + 2) (ln S94 j95) <|
  lt (uai S94 j95 (Int32.toNatClampNeg ((331 + (7 * p1)) + 2)) (si S94 1018 p0)) fun S97 =>
  f_X11_storeMessage_L64 F F S97 p0 p1 p3 p4 0
def f_X11_deliver_L234 (F : Nat) (S0 : St) (v0 : Nat) (v8 : Int32) : Option (Int32 × St) :=
  lt (ui S0 1007 v0 0) fun S1 =>
  some (v8, S1)
def f_X11_deliver_L211 (F : Nat) (S0 : St) (v0 : Nat) (v1 : Int32) (v2 : Int32) (v3 : Int32) (v7 : Int32) (s0 : Int32) : Option (Int32 × St) :=
  if s0 = ((-2)) then
  (f_X11_deliver_L234 F S0 v0 s0)
  else
  (Option.bind (f_X11_storeMessage F S0 v0 s0 v1 (v2 &&& (v7 ^^^ ((-1)))) v3) fun S5 =>
  f_X11_deliver_L234 F S5 v0 s0)
def f_X11_deliver_L178 (F : Nat) (k112 : St → Nat → Int32 → Int32 → Int32 → Int32 → Int32 → Int32 → Option (Int32 × St)) (S0 : St) (v0 : Nat) (v1 : Int32) (v2 : Int32) (v3 : Int32) (v6 : Int32) (v7 : Int32) (v8 : Int32) : Option (Int32 × St) :=
  lt (v8 + 1) fun x13 =>
  k112 S0 v0 v1 v2 v3 v6 v7 x13
def f_X11_deliver_L112 (F : Nat) : Nat → St → Nat → Int32 → Int32 → Int32 → Int32 → Int32 → Int32 → Option (Int32 × St)
  | 0, _, _, _, _, _, _, _, _ => none
  | fu + 1, S0, v0, v1, v2, v3, v6, v7, v8 =>
    Option.bind (sr S0 1001 v0) fun j15 =>
    cki 4 (ln S0 j15) <|
    if (ai S0 j15 (Int32.toNatClampNeg 4)) ≤ v8 then
    (Option.bind (sr S0 1001 v0) fun j18 =>
    cki 10 (ln S0 j18) <|
    lt (uai S0 j18 (Int32.toNatClampNeg 10) v7) fun S20 =>
    if ¬ v7 = v2 then
    (Option.bind (sr S20 1001 v0) fun j22 =>
    cki 7 (ln S20 j22) <|
    f_X11_deliver_L211 F S20 v0 v1 v2 v3 v7 (ai S20 j22 (Int32.toNatClampNeg 7)))
    else
    (f_X11_deliver_L211 F S20 v0 v1 v2 v3 v7 ((-2))))
    else
    (Option.bind (f_X11_hasBit F S0 v2 v8) fun z24 => lt z24.1 fun r26 => lt z24.2 fun S25 =>
    if r26 = 0 then
    (f_X11_deliver_L178 F (fun a0 a1 a2 a3 a4 a5 a6 a7 => f_X11_deliver_L112 F fu a0 a1 a2 a3 a4 a5 a6 a7) S25 v0 v1 v2 v3 v6 v7 v8)
    else
    (Option.bind (f_X11_usageOf F S25 v0 v8) fun z29 => lt z29.1 fun r31 => lt z29.2 fun S30 =>
    Option.bind (sr S30 1001 v0) fun j33 =>
    cki ((83 + (8 * v8)) + 1) (ln S30 j33) <|
    if (ai S30 j33 (Int32.toNatClampNeg ((83 + (8 * v8)) + 1))) < (r31 + v6) then
    (lt (v7 ||| (1 <<< (v8 &&& 31))) fun x36 =>
    Option.bind (f_X11_log F S30 v0 ((2 : Int32)) v8) fun S38 =>
    f_X11_deliver_L178 F (fun a0 a1 a2 a3 a4 a5 a6 a7 => f_X11_deliver_L112 F fu a0 a1 a2 a3 a4 a5 a6 a7) S38 v0 v1 v2 v3 v6 x36 v8)
    else
    (f_X11_deliver_L178 F (fun a0 a1 a2 a3 a4 a5 a6 a7 => f_X11_deliver_L112 F fu a0 a1 a2 a3 a4 a5 a6 a7) S30 v0 v1 v2 v3 v6 v7 v8)))
def f_X11_deliver_L88 (F : Nat) (S0 : St) (v0 : Nat) (v1 : Int32) (v2 : Int32) (v3 : Int32) (s0 : Int32) (s1 : Int32) (s2 : Int32) (s3 : Nat) : Option (Int32 × St) :=
  Option.bind (f_X11_passes3 F S0 s3 s2 s1 s0) fun z67 => lt z67.1 fun r69 => lt z67.2 fun S68 =>
  if ¬ r69 = 0 then
  (Option.bind (f_X11_remember F S68 v0) fun S73 =>
  Option.bind (f_X11_sizeIn F S73 v0) fun z76 => lt z76.1 fun r78 => lt z76.2 fun S77 =>
  f_X11_deliver_L112 F F S77 v0 v1 v2 v3 r78 0 0)
  else
  (some (0, S68))
def f_X11_deliver_L87 (F : Nat) (S0 : St) (v0 : Nat) (v1 : Int32) (v2 : Int32) (v3 : Int32) (s0 : Int32) (s1 : Int32) (s2 : Nat) : Option (Int32 × St) :=
  f_X11_deliver_L88 F S0 v0 v1 v2 v3 0 s0 s1 s2
def f_X11_deliver_L83 (F : Nat) (S0 : St) (v0 : Nat) (v1 : Int32) (v2 : Int32) (v3 : Int32) (s0 : Int32) (s1 : Int32) (s2 : Nat) : Option (Int32 × St) :=
  f_X11_deliver_L88 F S0 v0 v1 v2 v3 1 s0 s1 s2
def f_X11_deliver_L52 (F : Nat) (S0 : St) (v0 : Nat) (v1 : Int32) (v2 : Int32) (v3 : Int32) (v4 : Int32) (s0 : Int32) : Option (Int32 × St) :=
  if s0 = 0 then
  (f_X11_deliver_L83 F S0 v0 v1 v2 v3 s0 v4 v0)
  else
  (Option.bind (sr S0 1001 v0) fun j94 =>
  cki 7 (ln S0 j94) <|
  if 120 ≤ (ai S0 j94 (Int32.toNatClampNeg 7)) then
  (f_X11_deliver_L87 F S0 v0 v1 v2 v3 s0 v4 v0)
  else
  (Option.bind (f_X11_hasRoom F S0 v0) fun z97 => lt z97.1 fun r99 => lt z97.2 fun S98 =>
  if r99 = 0 then
  (f_X11_deliver_L87 F S98 v0 v1 v2 v3 s0 v4 v0)
  else
  (f_X11_deliver_L83 F S98 v0 v1 v2 v3 s0 v4 v0)))
def f_X11_deliver_L51 (F : Nat) (S0 : St) (v0 : Nat) (v1 : Int32) (v2 : Int32) (v3 : Int32) (v4 : Int32) : Option (Int32 × St) :=
  f_X11_deliver_L52 F S0 v0 v1 v2 v3 v4 0
def f_X11_deliver_L34 (F : Nat) (S0 : St) (v0 : Nat) (v1 : Int32) (v2 : Int32) (v3 : Int32) (s0 : Int32) : Option (Int32 × St) :=
  if v2 = 0 then
  (f_X11_deliver_L51 F S0 v0 v1 v2 v3 s0)
  else
  (Option.bind (f_X11_isContent F S0 v0) fun z112 => lt z112.1 fun r114 => lt z112.2 fun S113 =>
  if r114 = 0 then
  (f_X11_deliver_L51 F S113 v0 v1 v2 v3 s0)
  else
  (f_X11_deliver_L52 F S113 v0 v1 v2 v3 s0 1))
def f_X11_deliver_L33 (F : Nat) (S0 : St) (v0 : Nat) (v1 : Int32) (v2 : Int32) (v3 : Int32) : Option (Int32 × St) :=
  f_X11_deliver_L34 F S0 v0 v1 v2 v3 0
def f_X11_deliver_L29 (F : Nat) (S0 : St) (v0 : Nat) (v1 : Int32) (v2 : Int32) (v3 : Int32) : Option (Int32 × St) :=
  f_X11_deliver_L34 F S0 v0 v1 v2 v3 1
def f_X11_deliver (F : Nat) (S0 : St) (p0 : Nat) (p1 : Int32) (p2 : Int32) (p3 : Int32) : Option (Int32 × St) :=
  Option.bind (f_X11_isUser F S0 p0 p1) fun z123 => lt z123.1 fun r125 => lt z123.2 fun S124 =>
  if r125 = 0 then
  (f_X11_deliver_L33 F S124 p0 p1 p2 p3)
  else
  (Option.bind (f_X11_areUsers F S124 p0 p2) fun z128 => lt z128.1 fun r130 => lt z128.2 fun S129 =>
  if r130 = 0 then
  (f_X11_deliver_L33 F S129 p0 p1 p2 p3)
  else
  (if p3 = ((-1)) then
  (f_X11_deliver_L29 F S129 p0 p1 p2 p3)
  else
  (Option.bind (f_X11_isClass F S129 p0 p3) fun z134 => lt z134.1 fun r136 => lt z134.2 fun S135 =>
  if r136 = 0 then
  (f_X11_deliver_L33 F S135 p0 p1 p2 p3)
  else
  (f_X11_deliver_L29 F S135 p0 p1 p2 p3))))
def f_X11_bounced (F : Nat) (S0 : St) (p0 : Nat) : Option (Int32 × St) :=
  lt (ui S0 1000 p0 0) fun S1 =>
  Option.bind (sr S1 1001 p0) fun j2 =>
  cki 10 (ln S1 j2) <|
  some (ai S1 j2 (Int32.toNatClampNeg 10), S1)
def f_X11_messageCount (F : Nat) (S0 : St) (p0 : Nat) : Option (Int32 × St) :=
  lt (ui S0 1000 p0 0) fun S1 =>
  Option.bind (sr S1 1001 p0) fun j2 =>
  cki 7 (ln S1 j2) <|
  some (ai S1 j2 (Int32.toNatClampNeg 7), S1)
def f_X11_message (F : Nat) (S0 : St) (p0 : Nat) (p1 : Int32) (p2 : Int32) : Option (Int32 × St) :=
  Option.bind (f_X11_isMessage F S0 p0 p1) fun z1 => lt z1.1 fun r3 => lt z1.2 fun S2 =>
  Option.bind (f_X11_in F S2 p2.toInt64 ((0 : Int64)) (((4) : Int64))) fun z5 => lt z5.1 fun r7 => lt z5.2 fun S6 =>
  Option.bind (f_X11_passes2 F S6 p0 r3 r7) fun z9 => lt z9.1 fun r11 => lt z9.2 fun S10 =>
  if ¬ r11 = 0 then
  (if 3 ≤ p2 then
  (if ¬ p2 = 3 then
  (Option.bind (f_X11_isKeptMessage F S10 p0 p1) fun z16 => lt z16.1 fun r18 => lt z16.2 fun S17 =>
  if r18 = 0 then
  (some (0, S17))
  else
  (some (1, S17)))
  else
  (Option.bind (f_X11_sizeOf F S10 p0 p1) fun z21 => lt z21.1 fun r23 => lt z21.2 fun S22 =>
  some (r23, S22)))
  else
  (Option.bind (f_X11_messageValue F S10 p0 p1 p2) fun z25 => lt z25.1 fun r27 => lt z25.2 fun S26 =>
  some (r27, S26)))
  else
  (some (0, S10))
def f_X11_partOf_L32 (F : Nat) (S0 : St) (v0 : Nat) (v1 : Int32) (v2 : Int32) (s0 : Int32) (s1 : Nat) : Option (Int32 × St) :=
  Option.bind (f_X11_passes F S0 s1 s0) fun z1 => lt z1.1 fun r3 => lt z1.2 fun S2 =>
  if r3 = 0 then
  (some (0, S2))
  else
  (Option.bind (f_X11_messageValue F S2 v0 v1 (3 + v2)) fun z6 => lt z6.1 fun r8 => lt z6.2 fun S7 =>
  some (r8, S7))
def f_X11_partOf_L31 (F : Nat) (S0 : St) (v0 : Nat) (v1 : Int32) (v2 : Int32) (s0 : Nat) : Option (Int32 × St) :=
  f_X11_partOf_L32 F S0 v0 v1 v2 0 s0
def f_X11_partOf (F : Nat) (S0 : St) (p0 : Nat) (p1 : Int32) (p2 : Int32) : Option (Int32 × St) :=
  Option.bind (f_X11_isMessage F S0 p0 p1) fun z19 => lt z19.1 fun r21 => lt z19.2 fun S20 =>
  if r21 = 0 then
  (f_X11_partOf_L31 F S20 p0 p1 p2 p0)
  else
  (Option.bind (f_X11_messageValue F S20 p0 p1 ((2 : Int32))) fun z24 => lt z24.1 fun r26 => lt z24.2 fun S25 =>
  Option.bind (f_X11_in F S25 p2.toInt64 ((0 : Int64)) ((r26 - 1).toInt64)) fun z28 => lt z28.1 fun r30 => lt z28.2 fun S29 =>
  if r30 = 0 then
  (f_X11_partOf_L31 F S29 p0 p1 p2 p0)
  else
  (f_X11_partOf_L32 F S29 p0 p1 p2 1 p0))
def f_X11_readers_L45 (F : Nat) (k18 : St → Nat → Int32 → Int32 → Int32 → Option (Int32 × St)) (S0 : St) (v0 : Nat) (v1 : Int32) (v3 : Int32) (s0 : Int32) (s1 : Int32) : Option (Int32 × St) :=
  lt (s1 ||| s0) fun x1 =>
  lt (v3 + 1) fun x2 =>
  k18 S0 v0 v1 x1 x2
def f_X11_readers_L18 (F : Nat) : Nat → St → Nat → Int32 → Int32 → Int32 → Option (Int32 × St)
  | 0, _, _, _, _, _ => none
  | fu + 1, S0, v0, v1, v2, v3 =>
    Option.bind (sr S0 1001 v0) fun j5 =>
    cki 4 (ln S0 j5) <|
    if (ai S0 j5 (Int32.toNatClampNeg 4)) ≤ v3 then
    (some (v2, S0))
    else
    (Option.bind (f_X11_isLive F S0 v0 v1 v3) fun z8 => lt z8.1 fun r10 => lt z8.2 fun S9 =>
    if r10 = 0 then
    (f_X11_readers_L45 F (fun a0 a1 a2 a3 a4 => f_X11_readers_L18 F fu a0 a1 a2 a3 a4) S9 v0 v1 v3 0 v2)
    else
    (f_X11_readers_L45 F (fun a0 a1 a2 a3 a4 => f_X11_readers_L18 F fu a0 a1 a2 a3 a4) S9 v0 v1 v3 (1 <<< (v3 &&& 31)) v2))
def f_X11_readers (F : Nat) (S0 : St) (p0 : Nat) (p1 : Int32) : Option (Int32 × St) :=
  Option.bind (f_X11_isMessage F S0 p0 p1) fun z21 => lt z21.1 fun r23 => lt z21.2 fun S22 =>
  Option.bind (f_X11_passes F S22 p0 r23) fun z25 => lt z25.1 fun r27 => lt z25.2 fun S26 =>
  if ¬ r27 = 0 then
  (f_X11_readers_L18 F F S26 p0 p1 0 0)
  else
  (some (0, S26))
def f_X11_hidden_L45 (F : Nat) (k18 : St → Nat → Int32 → Int32 → Int32 → Option (Int32 × St)) (S0 : St) (v0 : Nat) (v1 : Int32) (v3 : Int32) (s0 : Int32) (s1 : Int32) : Option (Int32 × St) :=
  lt (s1 ||| s0) fun x1 =>
  lt (v3 + 1) fun x2 =>
  k18 S0 v0 v1 x1 x2
def f_X11_hidden_L18 (F : Nat) : Nat → St → Nat → Int32 → Int32 → Int32 → Option (Int32 × St)
  | 0, _, _, _, _, _ => none
  | fu + 1, S0, v0, v1, v2, v3 =>
    Option.bind (sr S0 1001 v0) fun j5 =>
    cki 4 (ln S0 j5) <|
    if (ai S0 j5 (Int32.toNatClampNeg 4)) ≤ v3 then
    (some (v2, S0))
    else
    (Option.bind (f_X11_isHidden F S0 v0 v1 v3) fun z8 => lt z8.1 fun r10 => lt z8.2 fun S9 =>
    if r10 = 0 then
    (f_X11_hidden_L45 F (fun a0 a1 a2 a3 a4 => f_X11_hidden_L18 F fu a0 a1 a2 a3 a4) S9 v0 v1 v3 0 v2)
    else
    (f_X11_hidden_L45 F (fun a0 a1 a2 a3 a4 => f_X11_hidden_L18 F fu a0 a1 a2 a3 a4) S9 v0 v1 v3 (1 <<< (v3 &&& 31)) v2))
def f_X11_hidden (F : Nat) (S0 : St) (p0 : Nat) (p1 : Int32) : Option (Int32 × St) :=
  Option.bind (f_X11_isMessage F S0 p0 p1) fun z21 => lt z21.1 fun r23 => lt z21.2 fun S22 =>
  Option.bind (f_X11_passes F S22 p0 r23) fun z25 => lt z25.1 fun r27 => lt z25.2 fun S26 =>
  if ¬ r27 = 0 then
  (f_X11_hidden_L18 F F S26 p0 p1 0 0)
  else
  (some (0, S26))
def f_X11_refValue (F : Nat) (S0 : St) (p0 : Nat) (p1 : Int32) (p2 : Int32) (p3 : Int32) : Option (Int32 × St) :=
  Option.bind (f_X11_isRef F S0 p0 p1 p2) fun z1 => lt z1.1 fun r3 => lt z1.2 fun S2 =>
  Option.bind (f_X11_passes F S2 p0 r3) fun z5 => lt z5.1 fun r7 => lt z5.2 fun S6 =>
  if r7 = 0 then
  (some (0, S6))
  else
  (Option.bind (sr S6 1001 p0) fun j10 =>
  Option.bind (f_X11_refAt F S6 p1 p2) fun z11 => lt z11.1 fun r13 => lt z11.2 fun S12 =>
  cki (r13 + p3) (ln S12 j10) <|
  some (ai S12 j10 (Int32.toNatClampNeg (r13 + p3)), S12))
def f_X11_state (F : Nat) (S0 : St) (p0 : Nat) (p1 : Int32) (p2 : Int32) : Option (Int32 × St) :=
  Option.bind (f_X11_refValue F S0 p0 p1 p2 ((0 : Int32))) fun z1 => lt z1.1 fun r3 => lt z1.2 fun S2 =>
  some (r3, S2)
def f_X11_classOf (F : Nat) (S0 : St) (p0 : Nat) (p1 : Int32) (p2 : Int32) : Option (Int32 × St) :=
  Option.bind (f_X11_refValue F S0 p0 p1 p2 ((1 : Int32))) fun z1 => lt z1.1 fun r3 => lt z1.2 fun S2 =>
  some (r3, S2)
def f_X11_enteredOn (F : Nat) (S0 : St) (p0 : Nat) (p1 : Int32) (p2 : Int32) : Option (Int32 × St) :=
  Option.bind (f_X11_refValue F S0 p0 p1 p2 ((2 : Int32))) fun z1 => lt z1.1 fun r3 => lt z1.2 fun S2 =>
  some (r3, S2)
def f_X11_expiresOn (F : Nat) (S0 : St) (p0 : Nat) (p1 : Int32) (p2 : Int32) : Option (Int32 × St) :=
  Option.bind (f_X11_isRef F S0 p0 p1 p2) fun z1 => lt z1.1 fun r3 => lt z1.2 fun S2 =>
  Option.bind (f_X11_passes F S2 p0 r3) fun z5 => lt z5.1 fun r7 => lt z5.2 fun S6 =>
  if ¬ r7 = 0 then
  (Option.bind (sr S6 1001 p0) fun j10 =>
  Option.bind (f_X11_refAt F S6 p1 p2) fun z11 => lt z11.1 fun r13 => lt z11.2 fun S12 =>
  cki (r13 + 1) (ln S12 j10) <|
  lt (ai S12 j10 (Int32.toNatClampNeg (r13 + 1))) fun x16 =>
  Option.bind (f_X11_isLive F S12 p0 p1 p2) fun z17 => lt z17.1 fun r19 => lt z17.2 fun S18 =>
  if r19 = 0 then
  (some ((-1), S18))
  else
  (Option.bind (f_X11_ladder F S18 p0 x16) fun z22 => lt z22.1 fun r24 => lt z22.2 fun S23 =>
  if ¬ r24 = ((-1)) then
  (Option.bind (sr S23 1001 p0) fun j27 =>
  cki 2 (ln S23 j27) <|
  Option.bind (sr S23 1001 p0) fun j29 =>
  Option.bind (f_X11_refAt F S23 p1 p2) fun z30 => lt z30.1 fun r32 => lt z30.2 fun S31 =>
  cki (r32 + 2) (ln S31 j29) <|
  Option.bind (f_X11_classValue F S31 p0 x16 ((0 : Int32))) fun z35 => lt z35.1 fun r37 => lt z35.2 fun S36 =>
  lt (if (0 : Int32) < ((((ai S23 j27 (Int32.toNatClampNeg 2)) + 1) - (ai S31 j29 (Int32.toNatClampNeg (r32 + 2)))) - r37) then ((((ai S23 j27 (Int32.toNatClampNeg 2)) + 1) - (ai S31 j29 (Int32.toNatClampNeg (r32 + 2)))) - r37) else (0 : Int32)) fun x39 =>
  Option.bind (sr S36 1001 p0) fun j40 =>
  Option.bind (f_X11_refAt F S36 p1 p2) fun z41 => lt z41.1 fun r43 => lt z41.2 fun S42 =>
  cki (r43 + 2) (ln S42 j40) <|
  Option.bind (f_X11_ladder F S42 p0 x16) fun z46 => lt z46.1 fun r48 => lt z46.2 fun S47 =>
  some (((ai S42 j40 (Int32.toNatClampNeg (r43 + 2))) + x39) + r48, S47))
  else
  (some ((-1), S23))))
  else
  (some (0, S6))
def f_X11_isKeptRef_L67 (F : Nat) (k21 : St → Nat → Int32 → Int32 → Int32 → Int32 → Option (Int32 × St)) (S0 : St) (v0 : Nat) (v2 : Int32) (v3 : Int32) (v5 : Int32) (s0 : Int32) (s1 : Int32) : Option (Int32 × St) :=
  lt (s1 + s0) fun x1 =>
  lt (v5 + 1) fun x2 =>
  k21 S0 v0 v2 v3 x1 x2
def f_X11_isKeptRef_L66 (F : Nat) (k21 : St → Nat → Int32 → Int32 → Int32 → Int32 → Option (Int32 × St)) (S0 : St) (v0 : Nat) (v2 : Int32) (v3 : Int32) (v5 : Int32) (s0 : Int32) : Option (Int32 × St) :=
  f_X11_isKeptRef_L67 F k21 S0 v0 v2 v3 v5 0 s0
def f_X11_isKeptRef_L21 (F : Nat) : Nat → St → Nat → Int32 → Int32 → Int32 → Int32 → Option (Int32 × St)
  | 0, _, _, _, _, _, _ => none
  | fu + 1, S0, v0, v2, v3, v4, v5 =>
    Option.bind (sr S0 1001 v0) fun j5 =>
    cki 7 (ln S0 j5) <|
    if (ai S0 j5 (Int32.toNatClampNeg 7)) ≤ v5 then
    (Option.bind (f_X11_classValue F S0 v0 v3 ((1 : Int32))) fun z8 => lt z8.1 fun r10 => lt z8.2 fun S9 =>
    if r10 ≤ v4 then
    (some (0, S9))
    else
    (some (1, S9)))
    else
    (Option.bind (f_X11_isLive F S0 v0 v5 v2) fun z13 => lt z13.1 fun r15 => lt z13.2 fun S14 =>
    if r15 = 0 then
    (f_X11_isKeptRef_L66 F (fun a0 a1 a2 a3 a4 a5 => f_X11_isKeptRef_L21 F fu a0 a1 a2 a3 a4 a5) S14 v0 v2 v3 v5 v4)
    else
    (Option.bind (sr S14 1001 v0) fun j18 =>
    Option.bind (f_X11_refAt F S14 v5 v2) fun z19 => lt z19.1 fun r21 => lt z19.2 fun S20 =>
    cki (r21 + 1) (ln S20 j18) <|
    if ¬ (ai S20 j18 (Int32.toNatClampNeg (r21 + 1))) = v3 then
    (f_X11_isKeptRef_L66 F (fun a0 a1 a2 a3 a4 a5 => f_X11_isKeptRef_L21 F fu a0 a1 a2 a3 a4 a5) S20 v0 v2 v3 v5 v4)
    else
    (f_X11_isKeptRef_L67 F (fun a0 a1 a2 a3 a4 a5 => f_X11_isKeptRef_L21 F fu a0 a1 a2 a3 a4 a5) S20 v0 v2 v3 v5 1 v4)))
def f_X11_isKeptRef (F : Nat) (S0 : St) (p0 : Nat) (p1 : Int32) (p2 : Int32) : Option (Int32 × St) :=
  Option.bind (sr S0 1001 p0) fun j45 =>
  Option.bind (f_X11_refAt F S0 p1 p2) fun z46 => lt z46.1 fun r48 => lt z46.2 fun S47 =>
  cki (r48 + 1) (ln S47 j45) <|
  lt (ai S47 j45 (Int32.toNatClampNeg (r48 + 1))) fun x51 =>
  lt (p1 + 1) fun x52 =>
  f_X11_isKeptRef_L21 F F S47 p0 p2 x51 0 x52
def f_X11_isKept (F : Nat) (S0 : St) (p0 : Nat) (p1 : Int32) (p2 : Int32) : Option (Int32 × St) :=
  Option.bind (f_X11_isRef F S0 p0 p1 p2) fun z1 => lt z1.1 fun r3 => lt z1.2 fun S2 =>
  Option.bind (f_X11_passes F S2 p0 r3) fun z5 => lt z5.1 fun r7 => lt z5.2 fun S6 =>
  if r7 = 0 then
  (some (0, S6))
  else
  (Option.bind (f_X11_isLive F S6 p0 p1 p2) fun z10 => lt z10.1 fun r12 => lt z10.2 fun S11 =>
  if r12 = 0 then
  (some (0, S11))
  else
  (Option.bind (f_X11_isKeptRef F S11 p0 p1 p2) fun z15 => lt z15.1 fun r17 => lt z15.2 fun S16 =>
  if r17 = 0 then
  (some (0, S16))
  else
  (some (1, S16))))
def f_X11_holdsOn (F : Nat) (S0 : St) (p0 : Nat) (p1 : Int32) (p2 : Int32) : Option (Int32 × St) :=
  Option.bind (f_X11_isRef F S0 p0 p1 p2) fun z1 => lt z1.1 fun r3 => lt z1.2 fun S2 =>
  Option.bind (f_X11_passes F S2 p0 r3) fun z5 => lt z5.1 fun r7 => lt z5.2 fun S6 =>
  if r7 = 0 then
  (some (0, S6))
  else
  (Option.bind (f_X11_covers F S6 p0 p1 p2) fun z10 => lt z10.1 fun r12 => lt z10.2 fun S11 =>
  some (r12, S11))
def f_X11_storedParts_L34 (F : Nat) (k9 : St → Nat → Int32 → Int32 → Option (Int32 × St)) (S0 : St) (v0 : Nat) (v2 : Int32) (s0 : Int32) (s1 : Int32) : Option (Int32 × St) :=
  lt (s1 + s0) fun x1 =>
  lt (v2 + 1) fun x2 =>
  k9 S0 v0 x1 x2
def f_X11_storedParts_L9 (F : Nat) : Nat → St → Nat → Int32 → Int32 → Option (Int32 × St)
  | 0, _, _, _, _ => none
  | fu + 1, S0, v0, v1, v2 =>
    Option.bind (sr S0 1001 v0) fun j5 =>
    cki 8 (ln S0 j5) <|
    if (ai S0 j5 (Int32.toNatClampNeg 8)) ≤ v2 then
    (some (v1, S0))
    else
    (Option.bind (f_X11_isStored F S0 v0 v2) fun z8 => lt z8.1 fun r10 => lt z8.2 fun S9 =>
    if r10 = 0 then
    (f_X11_storedParts_L34 F (fun a0 a1 a2 a3 => f_X11_storedParts_L9 F fu a0 a1 a2 a3) S9 v0 v2 0 v1)
    else
    (f_X11_storedParts_L34 F (fun a0 a1 a2 a3 => f_X11_storedParts_L9 F fu a0 a1 a2 a3) S9 v0 v2 1 v1))
def f_X11_storedParts (F : Nat) (S0 : St) (p0 : Nat) : Option (Int32 × St) :=
  lt (ui S0 1000 p0 0) fun S21 =>
  f_X11_storedParts_L9 F F S21 p0 0 0
def f_X11_storedPart_L40 (F : Nat) (k4 : St → Nat → Int32 → Int32 → Option (Int32 × St)) (S0 : St) (v0 : Nat) (v2 : Int32) (v3 : Int32) : Option (Int32 × St) :=
  lt (v3 + 1) fun x1 =>
  k4 S0 v0 v2 x1
def f_X11_storedPart_L4 (F : Nat) : Nat → St → Nat → Int32 → Int32 → Option (Int32 × St)
  | 0, _, _, _, _ => none
  | fu + 1, S0, v0, v2, v3 =>
    Option.bind (sr S0 1001 v0) fun j3 =>
    cki 8 (ln S0 j3) <|
    if (ai S0 j3 (Int32.toNatClampNeg 8)) ≤ v3 then
    (lt (ui S0 1000 v0 1) fun S6 =>
    some (0, S6))
    else
    (Option.bind (f_X11_isStored F S0 v0 v3) fun z7 => lt z7.1 fun r9 => lt z7.2 fun S8 =>
    if ¬ r9 = 0 then
    (if ¬ v2 = 0 then
    (lt (v2 + (-1)) fun x13 =>
    f_X11_storedPart_L40 F (fun a0 a1 a2 a3 => f_X11_storedPart_L4 F fu a0 a1 a2 a3) S8 v0 x13 v3)
    else
    (lt (ui S8 1000 v0 0) fun S14 =>
    some (v3, S14)))
    else
    (f_X11_storedPart_L40 F (fun a0 a1 a2 a3 => f_X11_storedPart_L4 F fu a0 a1 a2 a3) S8 v0 v2 v3))
def f_X11_storedPart (F : Nat) (S0 : St) (p0 : Nat) (p1 : Int32) : Option (Int32 × St) :=
  f_X11_storedPart_L4 F F S0 p0 p1 0
def f_X11_firstWith_L2 (F : Nat) : Nat → St → Nat → Int32 → Int32 → Option (Int32 × St)
  | 0, _, _, _, _ => none
  | fu + 1, S0, v0, v1, v2 =>
    Option.bind (f_X11_has F S0 v0 v2 v1) fun z1 => lt z1.1 fun r3 => lt z1.2 fun S2 =>
    if ¬ r3 = 0 then
    (some (v2, S2))
    else
    (lt (v2 + 1) fun x6 =>
    (fun a0 a1 a2 a3 => f_X11_firstWith_L2 F fu a0 a1 a2 a3) S2 v0 v1 x6)
def f_X11_firstWith (F : Nat) (S0 : St) (p0 : Nat) (p1 : Int32) : Option (Int32 × St) :=
  f_X11_firstWith_L2 F F S0 p0 p1 0
def f_X11_part (F : Nat) (S0 : St) (p0 : Nat) (p1 : Int32) (p2 : Int32) : Option (Int32 × St) :=
  Option.bind (f_X11_isStored F S0 p0 p1) fun z1 => lt z1.1 fun r3 => lt z1.2 fun S2 =>
  Option.bind (f_X11_in F S2 p2.toInt64 ((0 : Int64)) (((3) : Int64))) fun z5 => lt z5.1 fun r7 => lt z5.2 fun S6 =>
  Option.bind (f_X11_passes2 F S6 p0 r3 r7) fun z9 => lt z9.1 fun r11 => lt z9.2 fun S10 =>
  if ¬ r11 = 0 then
  (if ¬ p2 = 0 then
  (if ¬ p2 = 1 then
  (if ¬ p2 = 2 then
  (Option.bind (f_X11_firstWith F S10 p0 p1) fun z17 => lt z17.1 fun r19 => lt z17.2 fun S18 =>
  some (r19, S18))
  else
  (Option.bind (f_X11_partValue F S10 p0 p1 ((2 : Int32))) fun z21 => lt z21.1 fun r23 => lt z21.2 fun S22 =>
  some (r23, S22)))
  else
  (Option.bind (f_X11_keepers F S10 p0 p1) fun z25 => lt z25.1 fun r27 => lt z25.2 fun S26 =>
  some (r27, S26)))
  else
  (Option.bind (f_X11_partValue F S10 p0 p1 ((0 : Int32))) fun z29 => lt z29.1 fun r31 => lt z29.2 fun S30 =>
  some (r31, S30)))
  else
  (some (0, S10))
def f_X11_partByte_L37 (F : Nat) (S0 : St) (v0 : Nat) (v1 : Int32) (v2 : Int32) (s0 : Int32) (s1 : Int32) (s2 : Nat) : Option (Int32 × St) :=
  Option.bind (f_X11_passes2 F S0 s2 s1 s0) fun z1 => lt z1.1 fun r3 => lt z1.2 fun S2 =>
  if r3 = 0 then
  (some (0, S2))
  else
  (Option.bind (f_X11_partByteAt F S2 v0 v1 v2) fun z6 => lt z6.1 fun r8 => lt z6.2 fun S7 =>
  some (r8 &&& 255, S7))
def f_X11_partByte_L32 (F : Nat) (S0 : St) (v0 : Nat) (v1 : Int32) (v2 : Int32) (s0 : Int32) (s1 : Nat) : Option (Int32 × St) :=
  f_X11_partByte_L37 F S0 v0 v1 v2 1 s0 s1
def f_X11_partByte (F : Nat) (S0 : St) (p0 : Nat) (p1 : Int32) (p2 : Int32) : Option (Int32 × St) :=
  Option.bind (f_X11_isStored F S0 p0 p1) fun z19 => lt z19.1 fun r21 => lt z19.2 fun S20 =>
  Option.bind (f_X11_isStored F S20 p0 p1) fun z23 => lt z23.1 fun r25 => lt z23.2 fun S24 =>
  if r25 = 0 then
  (f_X11_partByte_L32 F S24 p0 p1 p2 r21 p0)
  else
  (Option.bind (f_X11_partValue F S24 p0 p1 ((0 : Int32))) fun z28 => lt z28.1 fun r30 => lt z28.2 fun S29 =>
  Option.bind (f_X11_in F S29 p2.toInt64 ((0 : Int64)) ((r30 - 1).toInt64)) fun z32 => lt z32.1 fun r34 => lt z32.2 fun S33 =>
  if r34 = 0 then
  (f_X11_partByte_L37 F S33 p0 p1 p2 0 r21 p0)
  else
  (f_X11_partByte_L32 F S33 p0 p1 p2 r21 p0))
def f_X11_digest_L21 (F : Nat) : Nat → St → Nat → Int32 → Int64 → Int32 → Option (Int64 × St)
  | 0, _, _, _, _, _ => none
  | fu + 1, S0, v0, v1, v2, v4 =>
    Option.bind (f_X11_partValue F S0 v0 v1 ((0 : Int32))) fun z1 => lt z1.1 fun r3 => lt z1.2 fun S2 =>
    if r3 ≤ v4 then
    (some (v2, S2))
    else
    (Option.bind (f_X11_partByteAt F S2 v0 v1 v4) fun z6 => lt z6.1 fun r8 => lt z6.2 fun S7 =>
    lt ((v2 ^^^ ((r8 &&& 255).toInt64)) * ((1099511628211))) fun x10 =>
    lt (v4 + 1) fun x11 =>
    (fun a0 a1 a2 a3 a4 => f_X11_digest_L21 F fu a0 a1 a2 a3 a4) S7 v0 v1 x10 x11)
def f_X11_digest (F : Nat) (S0 : St) (p0 : Nat) (p1 : Int32) : Option (Int64 × St) :=
  Option.bind (f_X11_isStored F S0 p0 p1) fun z23 => lt z23.1 fun r25 => lt z23.2 fun S24 =>
  Option.bind (f_X11_passes F S24 p0 r25) fun z27 => lt z27.1 fun r29 => lt z27.2 fun S28 =>
  if ¬ r29 = 0 then
  (lt ((-3750763034362895579)) fun x32 =>
  f_X11_digest_L21 F F S28 p0 p1 x32 0)
  else
  (some (0, S28))
def f_X11_storedBytes (F : Nat) (S0 : St) (p0 : Nat) : Option (Int32 × St) :=
  lt (ui S0 1000 p0 0) fun S1 =>
  Option.bind (f_X11_stored F S1 p0) fun z2 => lt z2.1 fun r4 => lt z2.2 fun S3 =>
  some (r4, S3)
def f_X11_deadBytes_L47 (F : Nat) (k9 : St → Nat → Int32 → Int32 → Option (Int32 × St)) (S0 : St) (v0 : Nat) (v2 : Int32) (s0 : Int32) (s1 : Int32) : Option (Int32 × St) :=
  lt (s1 + s0) fun x1 =>
  lt (v2 + 1) fun x2 =>
  k9 S0 v0 x1 x2
def f_X11_deadBytes_L46 (F : Nat) (k9 : St → Nat → Int32 → Int32 → Option (Int32 × St)) (S0 : St) (v0 : Nat) (v2 : Int32) (s0 : Int32) : Option (Int32 × St) :=
  f_X11_deadBytes_L47 F k9 S0 v0 v2 0 s0
def f_X11_deadBytes_L9 (F : Nat) : Nat → St → Nat → Int32 → Int32 → Option (Int32 × St)
  | 0, _, _, _, _ => none
  | fu + 1, S0, v0, v1, v2 =>
    Option.bind (sr S0 1001 v0) fun j5 =>
    cki 8 (ln S0 j5) <|
    if (ai S0 j5 (Int32.toNatClampNeg 8)) ≤ v2 then
    (some (v1, S0))
    else
    (Option.bind (f_X11_isStored F S0 v0 v2) fun z8 => lt z8.1 fun r10 => lt z8.2 fun S9 =>
    if r10 = 0 then
    (f_X11_deadBytes_L46 F (fun a0 a1 a2 a3 => f_X11_deadBytes_L9 F fu a0 a1 a2 a3) S9 v0 v2 v1)
    else
    (Option.bind (f_X11_isDead F S9 v0 v2) fun z13 => lt z13.1 fun r15 => lt z13.2 fun S14 =>
    if r15 = 0 then
    (f_X11_deadBytes_L46 F (fun a0 a1 a2 a3 => f_X11_deadBytes_L9 F fu a0 a1 a2 a3) S14 v0 v2 v1)
    else
    (Option.bind (f_X11_partValue F S14 v0 v2 ((0 : Int32))) fun z18 => lt z18.1 fun r20 => lt z18.2 fun S19 =>
    f_X11_deadBytes_L47 F (fun a0 a1 a2 a3 => f_X11_deadBytes_L9 F fu a0 a1 a2 a3) S19 v0 v2 r20 v1)))
def f_X11_deadBytes (F : Nat) (S0 : St) (p0 : Nat) : Option (Int32 × St) :=
  lt (ui S0 1000 p0 0) fun S39 =>
  f_X11_deadBytes_L9 F F S39 p0 0 0
def f_X11_logicalBytes_L9 (F : Nat) : Nat → St → Nat → Int32 → Int32 → Option (Int32 × St)
  | 0, _, _, _, _ => none
  | fu + 1, S0, v0, v1, v2 =>
    Option.bind (sr S0 1001 v0) fun j1 =>
    cki 4 (ln S0 j1) <|
    if (ai S0 j1 (Int32.toNatClampNeg 4)) ≤ v2 then
    (some (v1, S0))
    else
    (Option.bind (f_X11_usageOf F S0 v0 v2) fun z4 => lt z4.1 fun r6 => lt z4.2 fun S5 =>
    lt (v1 + r6) fun x8 =>
    lt (v2 + 1) fun x9 =>
    (fun a0 a1 a2 a3 => f_X11_logicalBytes_L9 F fu a0 a1 a2 a3) S5 v0 x8 x9)
def f_X11_logicalBytes (F : Nat) (S0 : St) (p0 : Nat) : Option (Int32 × St) :=
  lt (ui S0 1000 p0 0) fun S19 =>
  f_X11_logicalBytes_L9 F F S19 p0 0 0
def f_X11_mostShared_L56 (F : Nat) (k9 : St → Nat → Int32 → Int32 → Option (Int32 × St)) (S0 : St) (v0 : Nat) (v1 : Int32) (v2 : Int32) : Option (Int32 × St) :=
  lt (v2 + 1) fun x1 =>
  k9 S0 v0 v1 x1
def f_X11_mostShared_L54 (F : Nat) (k9 : St → Nat → Int32 → Int32 → Option (Int32 × St)) (S0 : St) (v0 : Nat) (v2 : Int32) : Option (Int32 × St) :=
  f_X11_mostShared_L56 F k9 S0 v0 v2 v2
def f_X11_mostShared_L9 (F : Nat) : Nat → St → Nat → Int32 → Int32 → Option (Int32 × St)
  | 0, _, _, _, _ => none
  | fu + 1, S0, v0, v1, v2 =>
    Option.bind (sr S0 1001 v0) fun j3 =>
    cki 8 (ln S0 j3) <|
    if (ai S0 j3 (Int32.toNatClampNeg 8)) ≤ v2 then
    (some (v1, S0))
    else
    (Option.bind (f_X11_isStored F S0 v0 v2) fun z6 => lt z6.1 fun r8 => lt z6.2 fun S7 =>
    if r8 = 0 then
    (f_X11_mostShared_L56 F (fun a0 a1 a2 a3 => f_X11_mostShared_L9 F fu a0 a1 a2 a3) S7 v0 v1 v2)
    else
    (Option.bind (f_X11_keepers F S7 v0 v2) fun z11 => lt z11.1 fun r13 => lt z11.2 fun S12 =>
    if r13 ≤ 0 then
    (f_X11_mostShared_L56 F (fun a0 a1 a2 a3 => f_X11_mostShared_L9 F fu a0 a1 a2 a3) S12 v0 v1 v2)
    else
    (if v1 = ((-1)) then
    (f_X11_mostShared_L54 F (fun a0 a1 a2 a3 => f_X11_mostShared_L9 F fu a0 a1 a2 a3) S12 v0 v2)
    else
    (Option.bind (f_X11_keepers F S12 v0 v2) fun z17 => lt z17.1 fun r19 => lt z17.2 fun S18 =>
    Option.bind (f_X11_keepers F S18 v0 v1) fun z21 => lt z21.1 fun r23 => lt z21.2 fun S22 =>
    if r19 ≤ r23 then
    (f_X11_mostShared_L56 F (fun a0 a1 a2 a3 => f_X11_mostShared_L9 F fu a0 a1 a2 a3) S22 v0 v1 v2)
    else
    (f_X11_mostShared_L54 F (fun a0 a1 a2 a3 => f_X11_mostShared_L9 F fu a0 a1 a2 a3) S22 v0 v2)))))
def f_X11_mostShared (F : Nat) (S0 : St) (p0 : Nat) : Option (Int32 × St) :=
  lt (ui S0 1000 p0 0) fun S49 =>
  lt ((-1)) fun x50 =>
  f_X11_mostShared_L9 F F S49 p0 x50 0
def f_X11_usage (F : Nat) (S0 : St) (p0 : Nat) (p1 : Int32) : Option (Int32 × St) :=
  Option.bind (f_X11_isUser F S0 p0 p1) fun z1 => lt z1.1 fun r3 => lt z1.2 fun S2 =>
  Option.bind (f_X11_passes F S2 p0 r3) fun z5 => lt z5.1 fun r7 => lt z5.2 fun S6 =>
  if r7 = 0 then
  (some (0, S6))
  else
  (Option.bind (f_X11_usageOf F S6 p0 p1) fun z10 => lt z10.1 fun r12 => lt z10.2 fun S11 =>
  some (r12, S11))
def f_X11_quota (F : Nat) (S0 : St) (p0 : Nat) (p1 : Int32) : Option (Int32 × St) :=
  Option.bind (f_X11_isUser F S0 p0 p1) fun z1 => lt z1.1 fun r3 => lt z1.2 fun S2 =>
  Option.bind (f_X11_passes F S2 p0 r3) fun z5 => lt z5.1 fun r7 => lt z5.2 fun S6 =>
  if r7 = 0 then
  (some (0, S6))
  else
  (Option.bind (sr S6 1001 p0) fun j10 =>
  cki ((83 + (8 * p1)) + 1) (ln S6 j10) <|
  some (ai S6 j10 (Int32.toNatClampNeg ((83 + (8 * p1)) + 1)), S6))
def f_X11_reads_L33 (F : Nat) (k2 : St → Nat → Int32 → Int32 → Int32 → Option (Int32 × St)) (S0 : St) (v0 : Nat) (v1 : Int32) (v2 : Int32) (v3 : Int32) : Option (Int32 × St) :=
  lt (v3 + 1) fun x1 =>
  k2 S0 v0 v1 v2 x1
def f_X11_reads_L2 (F : Nat) : Nat → St → Nat → Int32 → Int32 → Int32 → Option (Int32 × St)
  | 0, _, _, _, _, _ => none
  | fu + 1, S0, v0, v1, v2, v3 =>
    Option.bind (sr S0 1001 v0) fun j3 =>
    cki 7 (ln S0 j3) <|
    if (ai S0 j3 (Int32.toNatClampNeg 7)) ≤ v3 then
    (some (0, S0))
    else
    (Option.bind (f_X11_isLive F S0 v0 v3 v1) fun z6 => lt z6.1 fun r8 => lt z6.2 fun S7 =>
    if r8 = 0 then
    (f_X11_reads_L33 F (fun a0 a1 a2 a3 a4 => f_X11_reads_L2 F fu a0 a1 a2 a3 a4) S7 v0 v1 v2 v3)
    else
    (Option.bind (f_X11_has F S7 v0 v3 v2) fun z11 => lt z11.1 fun r13 => lt z11.2 fun S12 =>
    if r13 = 0 then
    (f_X11_reads_L33 F (fun a0 a1 a2 a3 a4 => f_X11_reads_L2 F fu a0 a1 a2 a3 a4) S12 v0 v1 v2 v3)
    else
    (some (1, S12))))
def f_X11_reads (F : Nat) (S0 : St) (p0 : Nat) (p1 : Int32) (p2 : Int32) : Option (Int32 × St) :=
  f_X11_reads_L2 F F S0 p0 p1 p2 0
def f_X11_fairShare_L103 (F : Nat) (k19 : St → Nat → Int32 → UInt64 → Int32 → Option (UInt64 × St)) (S0 : St) (v0 : Nat) (v1 : Int32) (v2 : UInt64) (v4 : Int32) : Option (UInt64 × St) :=
  lt (v4 + 1) fun x1 =>
  k19 S0 v0 v1 v2 x1
def f_X11_fairShare_L79 (F : Nat) (k19 : St → Nat → Int32 → UInt64 → Int32 → Option (UInt64 × St)) (k50 : St → Nat → Int32 → UInt64 → Int32 → Int32 → Int32 → Option (UInt64 × St)) (S0 : St) (v0 : Nat) (v1 : Int32) (v2 : UInt64) (v4 : Int32) (v6 : Int32) (s0 : Int32) (s1 : Int32) : Option (UInt64 × St) :=
  lt (s1 + s0) fun x3 =>
  lt (v6 + 1) fun x4 =>
  k50 S0 v0 v1 v2 v4 x3 x4
def f_X11_fairShare_L50 (F : Nat) (k19 : St → Nat → Int32 → UInt64 → Int32 → Option (UInt64 × St)) : Nat → St → Nat → Int32 → UInt64 → Int32 → Int32 → Int32 → Option (UInt64 × St)
  | 0, _, _, _, _, _, _, _ => none
  | fu + 1, S0, v0, v1, v2, v4, v5, v6 =>
    Option.bind (sr S0 1001 v0) fun j7 =>
    cki 4 (ln S0 j7) <|
    if (ai S0 j7 (Int32.toNatClampNeg 4)) ≤ v6 then
    (Option.bind (f_X11_partValue F S0 v0 v4 ((0 : Int32))) fun z10 => lt z10.1 fun r12 => lt z10.2 fun S11 =>
    ckn (FP.ddiv (FP.i2d r12) (FP.i2d v5)) <|
    ckn (FP.dadd v2 (FP.ddiv (FP.i2d r12) (FP.i2d v5))) <|
    lt (FP.dadd v2 (FP.ddiv (FP.i2d r12) (FP.i2d v5))) fun x16 =>
    f_X11_fairShare_L103 F k19 S11 v0 v1 x16 v4)
    else
    (Option.bind (f_X11_reads F S0 v0 v6 v4) fun z17 => lt z17.1 fun r19 => lt z17.2 fun S18 =>
    if r19 = 0 then
    (f_X11_fairShare_L79 F k19 (fun a0 a1 a2 a3 a4 a5 a6 => f_X11_fairShare_L50 F k19 fu a0 a1 a2 a3 a4 a5 a6) S18 v0 v1 v2 v4 v6 0 v5)
    else
    (f_X11_fairShare_L79 F k19 (fun a0 a1 a2 a3 a4 a5 a6 => f_X11_fairShare_L50 F k19 fu a0 a1 a2 a3 a4 a5 a6) S18 v0 v1 v2 v4 v6 1 v5))
def f_X11_fairShare_L19 (F : Nat) : Nat → St → Nat → Int32 → UInt64 → Int32 → Option (UInt64 × St)
  | 0, _, _, _, _, _ => none
  | fu + 1, S0, v0, v1, v2, v4 =>
    Option.bind (sr S0 1001 v0) fun j37 =>
    cki 8 (ln S0 j37) <|
    if (ai S0 j37 (Int32.toNatClampNeg 8)) ≤ v4 then
    (some (v2, S0))
    else
    (Option.bind (f_X11_reads F S0 v0 v1 v4) fun z40 => lt z40.1 fun r42 => lt z40.2 fun S41 =>
    if ¬ r42 = 0 then
    (f_X11_fairShare_L50 F (fun a0 a1 a2 a3 a4 => f_X11_fairShare_L19 F fu a0 a1 a2 a3 a4) F S41 v0 v1 v2 v4 0 0)
    else
    (f_X11_fairShare_L103 F (fun a0 a1 a2 a3 a4 => f_X11_fairShare_L19 F fu a0 a1 a2 a3 a4) S41 v0 v1 v2 v4))
def f_X11_fairShare (F : Nat) (S0 : St) (p0 : Nat) (p1 : Int32) : Option (UInt64 × St) :=
  Option.bind (f_X11_isUser F S0 p0 p1) fun z53 => lt z53.1 fun r55 => lt z53.2 fun S54 =>
  Option.bind (f_X11_passes F S54 p0 r55) fun z57 => lt z57.1 fun r59 => lt z57.2 fun S58 =>
  if ¬ r59 = 0 then
  (lt FP.dconst0 fun x62 =>
  f_X11_fairShare_L19 F F S58 p0 p1 x62 0)
  else
  (some (FP.dconst0, S58))
def f_X11_inClass_L80 (F : Nat) (k35 : St → Nat → Int32 → Int32 → Int32 → Int32 → Option (Int32 × St)) (S0 : St) (v0 : Nat) (v1 : Int32) (v2 : Int32) (v4 : Int32) (s0 : Int32) (s1 : Int32) : Option (Int32 × St) :=
  lt (s1 + s0) fun x1 =>
  lt (v4 + 1) fun x2 =>
  k35 S0 v0 v1 v2 x1 x2
def f_X11_inClass_L79 (F : Nat) (k35 : St → Nat → Int32 → Int32 → Int32 → Int32 → Option (Int32 × St)) (S0 : St) (v0 : Nat) (v1 : Int32) (v2 : Int32) (v4 : Int32) (s0 : Int32) : Option (Int32 × St) :=
  f_X11_inClass_L80 F k35 S0 v0 v1 v2 v4 0 s0
def f_X11_inClass_L35 (F : Nat) : Nat → St → Nat → Int32 → Int32 → Int32 → Int32 → Option (Int32 × St)
  | 0, _, _, _, _, _, _ => none
  | fu + 1, S0, v0, v1, v2, v3, v4 =>
    Option.bind (sr S0 1001 v0) fun j5 =>
    cki 7 (ln S0 j5) <|
    if (ai S0 j5 (Int32.toNatClampNeg 7)) ≤ v4 then
    (some (v3, S0))
    else
    (Option.bind (f_X11_isLive F S0 v0 v4 v1) fun z8 => lt z8.1 fun r10 => lt z8.2 fun S9 =>
    if r10 = 0 then
    (f_X11_inClass_L79 F (fun a0 a1 a2 a3 a4 a5 => f_X11_inClass_L35 F fu a0 a1 a2 a3 a4 a5) S9 v0 v1 v2 v4 v3)
    else
    (Option.bind (sr S9 1001 v0) fun j13 =>
    Option.bind (f_X11_refAt F S9 v4 v1) fun z14 => lt z14.1 fun r16 => lt z14.2 fun S15 =>
    cki (r16 + 1) (ln S15 j13) <|
    if ¬ (ai S15 j13 (Int32.toNatClampNeg (r16 + 1))) = v2 then
    (f_X11_inClass_L79 F (fun a0 a1 a2 a3 a4 a5 => f_X11_inClass_L35 F fu a0 a1 a2 a3 a4 a5) S15 v0 v1 v2 v4 v3)
    else
    (f_X11_inClass_L80 F (fun a0 a1 a2 a3 a4 a5 => f_X11_inClass_L35 F fu a0 a1 a2 a3 a4 a5) S15 v0 v1 v2 v4 1 v3)))
def f_X11_inClass_L22 (F : Nat) (S0 : St) (v0 : Nat) (v1 : Int32) (v2 : Int32) (s0 : Int32) (s1 : Nat) : Option (Int32 × St) :=
  Option.bind (f_X11_passes F S0 s1 s0) fun z35 => lt z35.1 fun r37 => lt z35.2 fun S36 =>
  if ¬ r37 = 0 then
  (f_X11_inClass_L35 F F S36 v0 v1 v2 0 0)
  else
  (some (0, S36))
def f_X11_inClass_L21 (F : Nat) (S0 : St) (v0 : Nat) (v1 : Int32) (v2 : Int32) (s0 : Nat) : Option (Int32 × St) :=
  f_X11_inClass_L22 F S0 v0 v1 v2 0 s0
def f_X11_inClass (F : Nat) (S0 : St) (p0 : Nat) (p1 : Int32) (p2 : Int32) : Option (Int32 × St) :=
  Option.bind (f_X11_isUser F S0 p0 p1) fun z45 => lt z45.1 fun r47 => lt z45.2 fun S46 =>
  if r47 = 0 then
  (f_X11_inClass_L21 F S46 p0 p1 p2 p0)
  else
  (Option.bind (f_X11_isClass F S46 p0 p2) fun z50 => lt z50.1 fun r52 => lt z50.2 fun S51 =>
  if r52 = 0 then
  (f_X11_inClass_L21 F S51 p0 p1 p2 p0)
  else
  (f_X11_inClass_L22 F S51 p0 p1 p2 1 p0))
def f_X11_matches_L114 (F : Nat) (k80 : St → Nat → Int32 → Int32 → Int32 → Option (Int32 × St)) (S0 : St) (v0 : Nat) (v1 : Int32) (v3 : Int32) (s0 : Int32) (s1 : Int32) : Option (Int32 × St) :=
  lt (s1 + s0) fun x1 =>
  lt (v3 + 1) fun x2 =>
  k80 S0 v0 v1 x1 x2
def f_X11_matches_L113 (F : Nat) (k80 : St → Nat → Int32 → Int32 → Int32 → Option (Int32 × St)) (S0 : St) (v0 : Nat) (v1 : Int32) (v3 : Int32) (s0 : Int32) : Option (Int32 × St) :=
  f_X11_matches_L114 F k80 S0 v0 v1 v3 0 s0
def f_X11_matches_L80 (F : Nat) : Nat → St → Nat → Int32 → Int32 → Int32 → Option (Int32 × St)
  | 0, _, _, _, _, _ => none
  | fu + 1, S0, v0, v1, v2, v3 =>
    Option.bind (sr S0 1001 v0) fun j5 =>
    cki 7 (ln S0 j5) <|
    if (ai S0 j5 (Int32.toNatClampNeg 7)) ≤ v3 then
    (some (v2, S0))
    else
    (Option.bind (f_X11_isLive F S0 v0 v3 v1) fun z8 => lt z8.1 fun r10 => lt z8.2 fun S9 =>
    if r10 = 0 then
    (f_X11_matches_L113 F (fun a0 a1 a2 a3 a4 => f_X11_matches_L80 F fu a0 a1 a2 a3 a4) S9 v0 v1 v3 v2)
    else
    (Option.bind (f_X11_contains F S9 v0 v3) fun z13 => lt z13.1 fun r15 => lt z13.2 fun S14 =>
    if r15 = 0 then
    (f_X11_matches_L113 F (fun a0 a1 a2 a3 a4 => f_X11_matches_L80 F fu a0 a1 a2 a3 a4) S14 v0 v1 v3 v2)
    else
    (f_X11_matches_L114 F (fun a0 a1 a2 a3 a4 => f_X11_matches_L80 F fu a0 a1 a2 a3 a4) S14 v0 v1 v3 1 v2)))
def f_X11_matches_L45 (F : Nat) : Nat → St → Nat → Int32 → Int32 → Option (Int32 × St)
  | 0, _, _, _, _ => none
  | fu + 1, S0, v0, v1, v2 =>
    if (si S0 1016 v0) ≤ v2 then
    (lt (ui S0 1007 v0 0) fun S32 =>
    f_X11_matches_L80 F F S32 v0 v1 0 0)
    else
    (Option.bind (sr S0 1015 v0) fun j33 =>
    Option.bind (sr S0 1006 v0) fun j34 =>
    cki v2 (ln S0 j34) <|
    cki v2 (ln S0 j33) <|
    lt (uai S0 j33 (Int32.toNatClampNeg v2) (ai S0 j34 (Int32.toNatClampNeg v2))) fun S37 =>
    lt (v2 + 1) fun x38 =>
    (fun a0 a1 a2 a3 => f_X11_matches_L45 F fu a0 a1 a2 a3) S37 v0 v1 x38)
def f_X11_matches_L27 (F : Nat) (S0 : St) (v0 : Nat) (v1 : Int32) (s0 : Int32) (s1 : Int32) (s2 : Nat) : Option (Int32 × St) :=
  Option.bind (f_X11_passes2 F S0 s2 s1 s0) fun z47 => lt z47.1 fun r49 => lt z47.2 fun S48 =>
  if ¬ r49 = 0 then
  (lt (ui S48 1016 v0 (si S48 1007 v0)) fun S52 =>
  f_X11_matches_L45 F F S52 v0 v1 0)
  else
  (some (0, S48))
def f_X11_matches_L26 (F : Nat) (S0 : St) (v0 : Nat) (v1 : Int32) (s0 : Int32) (s1 : Nat) : Option (Int32 × St) :=
  f_X11_matches_L27 F S0 v0 v1 0 s0 s1
def f_X11_matches (F : Nat) (S0 : St) (p0 : Nat) (p1 : Int32) : Option (Int32 × St) :=
  Option.bind (f_X11_isUser F S0 p0 p1) fun z59 => lt z59.1 fun r61 => lt z59.2 fun S60 =>
  Option.bind (f_X11_isInputWord F S60 p0) fun z63 => lt z63.1 fun r65 => lt z63.2 fun S64 =>
  if r65 = 0 then
  (f_X11_matches_L26 F S64 p0 p1 r61 p0)
  else
  (if 10 < (si S64 1007 p0) then
  (f_X11_matches_L26 F S64 p0 p1 r61 p0)
  else
  (f_X11_matches_L27 F S64 p0 p1 1 r61 p0))
def f_X11_commonBytes_L79 (F : Nat) (k35 : St → Nat → Int32 → Int32 → Int32 → Int32 → Option (Int32 × St)) (S0 : St) (v0 : Nat) (v1 : Int32) (v2 : Int32) (v4 : Int32) (s0 : Int32) (s1 : Int32) : Option (Int32 × St) :=
  lt (s1 + s0) fun x1 =>
  lt (v4 + 1) fun x2 =>
  k35 S0 v0 v1 v2 x1 x2
def f_X11_commonBytes_L78 (F : Nat) (k35 : St → Nat → Int32 → Int32 → Int32 → Int32 → Option (Int32 × St)) (S0 : St) (v0 : Nat) (v1 : Int32) (v2 : Int32) (v4 : Int32) (s0 : Int32) : Option (Int32 × St) :=
  f_X11_commonBytes_L79 F k35 S0 v0 v1 v2 v4 0 s0
def f_X11_commonBytes_L35 (F : Nat) : Nat → St → Nat → Int32 → Int32 → Int32 → Int32 → Option (Int32 × St)
  | 0, _, _, _, _, _, _ => none
  | fu + 1, S0, v0, v1, v2, v3, v4 =>
    Option.bind (sr S0 1001 v0) fun j5 =>
    cki 8 (ln S0 j5) <|
    if (ai S0 j5 (Int32.toNatClampNeg 8)) ≤ v4 then
    (some (v3, S0))
    else
    (Option.bind (f_X11_reads F S0 v0 v1 v4) fun z8 => lt z8.1 fun r10 => lt z8.2 fun S9 =>
    if r10 = 0 then
    (f_X11_commonBytes_L78 F (fun a0 a1 a2 a3 a4 a5 => f_X11_commonBytes_L35 F fu a0 a1 a2 a3 a4 a5) S9 v0 v1 v2 v4 v3)
    else
    (Option.bind (f_X11_reads F S9 v0 v2 v4) fun z13 => lt z13.1 fun r15 => lt z13.2 fun S14 =>
    if r15 = 0 then
    (f_X11_commonBytes_L78 F (fun a0 a1 a2 a3 a4 a5 => f_X11_commonBytes_L35 F fu a0 a1 a2 a3 a4 a5) S14 v0 v1 v2 v4 v3)
    else
    (Option.bind (f_X11_partValue F S14 v0 v4 ((0 : Int32))) fun z18 => lt z18.1 fun r20 => lt z18.2 fun S19 =>
    f_X11_commonBytes_L79 F (fun a0 a1 a2 a3 a4 a5 => f_X11_commonBytes_L35 F fu a0 a1 a2 a3 a4 a5) S19 v0 v1 v2 v4 r20 v3)))
def f_X11_commonBytes_L22 (F : Nat) (S0 : St) (v0 : Nat) (v1 : Int32) (v2 : Int32) (s0 : Int32) (s1 : Nat) : Option (Int32 × St) :=
  Option.bind (f_X11_passes F S0 s1 s0) fun z39 => lt z39.1 fun r41 => lt z39.2 fun S40 =>
  if ¬ r41 = 0 then
  (f_X11_commonBytes_L35 F F S40 v0 v1 v2 0 0)
  else
  (some (0, S40))
def f_X11_commonBytes_L21 (F : Nat) (S0 : St) (v0 : Nat) (v1 : Int32) (v2 : Int32) (s0 : Nat) : Option (Int32 × St) :=
  f_X11_commonBytes_L22 F S0 v0 v1 v2 0 s0
def f_X11_commonBytes (F : Nat) (S0 : St) (p0 : Nat) (p1 : Int32) (p2 : Int32) : Option (Int32 × St) :=
  Option.bind (f_X11_isUser F S0 p0 p1) fun z49 => lt z49.1 fun r51 => lt z49.2 fun S50 =>
  if r51 = 0 then
  (f_X11_commonBytes_L21 F S50 p0 p1 p2 p0)
  else
  (Option.bind (f_X11_isUser F S50 p0 p2) fun z54 => lt z54.1 fun r56 => lt z54.2 fun S55 =>
  if r56 = 0 then
  (f_X11_commonBytes_L21 F S55 p0 p1 p2 p0)
  else
  (f_X11_commonBytes_L22 F S55 p0 p1 p2 1 p0))
def f_X11_enter (F : Nat) (S0 : St) (p0 : Nat) (p1 : Int32) (p2 : Int32) (p3 : Int32) : Option (St) :=
  Option.bind (sr S0 1001 p0) fun j1 =>
  Option.bind (f_X11_refAt F S0 p1 p2) fun z2 => lt z2.1 fun r4 => lt z2.2 fun S3 =>
  cki (r4 + 1) (ln S3 j1) <|
  lt (uai S3 j1 (Int32.toNatClampNeg (r4 + 1)) p3) fun S7 =>
  Option.bind (sr S7 1001 p0) fun j8 =>
  Option.bind (f_X11_refAt F S7 p1 p2) fun z9 => lt z9.1 fun r11 => lt z9.2 fun S10 =>
  Option.bind (sr S10 1001 p0) fun j13 =>
  cki 2 (ln S10 j13) <|
  cki (r11 + 2) (ln S10 j8) <|
  lt (uai S10 j8 (Int32.toNatClampNeg (r11 + 2)) (ai S10 j13 (Int32.toNatClampNeg 2))) fun S16 =>
  some S16
def f_X11_file_L98 (F : Nat) (S0 : St) (v0 : Nat) (v1 : Int32) (v2 : Int32) (v3 : Int32) (v4 : Int32) : Option (Int32 × St) :=
  Option.bind (f_X11_remember F S0 v0) fun S2 =>
  Option.bind (f_X11_enter F S2 v0 v1 v2 v3) fun S6 =>
  some (v4, S6)
def f_X11_file_L46 (F : Nat) (S0 : St) (v0 : Nat) (v1 : Int32) (v2 : Int32) (v3 : Int32) (s0 : Int32) (s1 : Int32) (s2 : Nat) : Option (Int32 × St) :=
  Option.bind (f_X11_passes2 F S0 s2 s1 s0) fun z17 => lt z17.1 fun r19 => lt z17.2 fun S18 =>
  if ¬ r19 = 0 then
  (Option.bind (sr S18 1001 v0) fun j22 =>
  Option.bind (f_X11_refAt F S18 v1 v2) fun z23 => lt z23.1 fun r25 => lt z23.2 fun S24 =>
  cki (r25 + 1) (ln S24 j22) <|
  lt (ai S24 j22 (Int32.toNatClampNeg (r25 + 1))) fun x28 =>
  if ¬ x28 = v3 then
  (f_X11_file_L98 F S24 v0 v1 v2 v3 x28)
  else
  (Option.bind (sr S24 1001 v0) fun j30 =>
  Option.bind (f_X11_refAt F S24 v1 v2) fun z31 => lt z31.1 fun r33 => lt z31.2 fun S32 =>
  cki (r33 + 2) (ln S32 j30) <|
  Option.bind (sr S32 1001 v0) fun j36 =>
  cki 2 (ln S32 j36) <|
  if ¬ (ai S32 j30 (Int32.toNatClampNeg (r33 + 2))) = (ai S32 j36 (Int32.toNatClampNeg 2)) then
  (f_X11_file_L98 F S32 v0 v1 v2 v3 x28)
  else
  (some (x28, S32))))
  else
  (some (0, S18))
def f_X11_file_L41 (F : Nat) (S0 : St) (v0 : Nat) (v1 : Int32) (v2 : Int32) (v3 : Int32) (s0 : Int32) (s1 : Nat) : Option (Int32 × St) :=
  f_X11_file_L46 F S0 v0 v1 v2 v3 1 s0 s1
def f_X11_file_L23 (F : Nat) (S0 : St) (v0 : Nat) (v1 : Int32) (v2 : Int32) (v3 : Int32) (s0 : Int32) (s1 : Nat) : Option (Int32 × St) :=
  Option.bind (f_X11_isRef F S0 v0 v1 v2) fun z61 => lt z61.1 fun r63 => lt z61.2 fun S62 =>
  if r63 = 0 then
  (f_X11_file_L41 F S62 v0 v1 v2 v3 s0 s1)
  else
  (Option.bind (f_X11_isLive F S62 v0 v1 v2) fun z66 => lt z66.1 fun r68 => lt z66.2 fun S67 =>
  if r68 = 0 then
  (f_X11_file_L46 F S67 v0 v1 v2 v3 0 s0 s1)
  else
  (f_X11_file_L41 F S67 v0 v1 v2 v3 s0 s1))
def f_X11_file_L22 (F : Nat) (S0 : St) (v0 : Nat) (v1 : Int32) (v2 : Int32) (v3 : Int32) (s0 : Nat) : Option (Int32 × St) :=
  f_X11_file_L23 F S0 v0 v1 v2 v3 0 s0
def f_X11_file (F : Nat) (S0 : St) (p0 : Nat) (p1 : Int32) (p2 : Int32) (p3 : Int32) : Option (Int32 × St) :=
  Option.bind (f_X11_isClass F S0 p0 p3) fun z81 => lt z81.1 fun r83 => lt z81.2 fun S82 =>
  if r83 = 0 then
  (f_X11_file_L22 F S82 p0 p1 p2 p3 p0)
  else
  (Option.bind (f_X11_isRef F S82 p0 p1 p2) fun z86 => lt z86.1 fun r88 => lt z86.2 fun S87 =>
  if r88 = 0 then
  (f_X11_file_L22 F S87 p0 p1 p2 p3 p0)
  else
  (f_X11_file_L23 F S87 p0 p1 p2 p3 1 p0))
def f_X11_delete_L30 (F : Nat) (S0 : St) (v0 : Nat) (v1 : Int32) (v2 : Int32) (s0 : Int32) (s1 : Int32) (s2 : Nat) : Option (Int32 × St) :=
  Option.bind (f_X11_passes2 F S0 s2 s1 s0) fun z1 => lt z1.1 fun r3 => lt z1.2 fun S2 =>
  if ¬ r3 = 0 then
  (Option.bind (f_X11_remember F S2 v0) fun S7 =>
  Option.bind (f_X11_ceases F S7 v0 v1 v2 ((1 : Int32))) fun z10 => lt z10.1 fun r12 => lt z10.2 fun S11 =>
  some (r12, S11))
  else
  (some (0, S2))
def f_X11_delete_L25 (F : Nat) (S0 : St) (v0 : Nat) (v1 : Int32) (v2 : Int32) (s0 : Int32) (s1 : Nat) : Option (Int32 × St) :=
  f_X11_delete_L30 F S0 v0 v1 v2 1 s0 s1
def f_X11_delete (F : Nat) (S0 : St) (p0 : Nat) (p1 : Int32) (p2 : Int32) : Option (Int32 × St) :=
  Option.bind (f_X11_isRef F S0 p0 p1 p2) fun z27 => lt z27.1 fun r29 => lt z27.2 fun S28 =>
  Option.bind (f_X11_isRef F S28 p0 p1 p2) fun z31 => lt z31.1 fun r33 => lt z31.2 fun S32 =>
  if r33 = 0 then
  (f_X11_delete_L25 F S32 p0 p1 p2 r29 p0)
  else
  (Option.bind (f_X11_isLive F S32 p0 p1 p2) fun z36 => lt z36.1 fun r38 => lt z36.2 fun S37 =>
  if r38 = 0 then
  (f_X11_delete_L30 F S37 p0 p1 p2 0 r29 p0)
  else
  (f_X11_delete_L25 F S37 p0 p1 p2 r29 p0))
def f_X11_recover_L30 (F : Nat) (S0 : St) (v0 : Nat) (v1 : Int32) (v2 : Int32) (s0 : Int32) (s1 : Int32) (s2 : Nat) : Option (Int32 × St) :=
  Option.bind (f_X11_passes2 F S0 s2 s1 s0) fun z1 => lt z1.1 fun r3 => lt z1.2 fun S2 =>
  if ¬ r3 = 0 then
  (Option.bind (f_X11_remember F S2 v0) fun S7 =>
  Option.bind (f_X11_stateOf F S7 v0 v1 v2) fun z10 => lt z10.1 fun r12 => lt z10.2 fun S11 =>
  Option.bind (sr S11 1001 v0) fun j14 =>
  Option.bind (f_X11_refAt F S11 v1 v2) fun z15 => lt z15.1 fun r17 => lt z15.2 fun S16 =>
  cki (r17 + 0) (ln S16 j14) <|
  lt (uai S16 j14 (Int32.toNatClampNeg (r17 + 0)) 0) fun S20 =>
  Option.bind (sr S20 1001 v0) fun j21 =>
  Option.bind (f_X11_refAt F S20 v1 v2) fun z22 => lt z22.1 fun r24 => lt z22.2 fun S23 =>
  Option.bind (sr S23 1001 v0) fun j26 =>
  cki 2 (ln S23 j26) <|
  cki (r24 + 2) (ln S23 j21) <|
  lt (uai S23 j21 (Int32.toNatClampNeg (r24 + 2)) (ai S23 j26 (Int32.toNatClampNeg 2))) fun S29 =>
  some (r12, S29))
  else
  (some (0, S2))
def f_X11_recover_L25 (F : Nat) (S0 : St) (v0 : Nat) (v1 : Int32) (v2 : Int32) (s0 : Int32) (s1 : Nat) : Option (Int32 × St) :=
  f_X11_recover_L30 F S0 v0 v1 v2 1 s0 s1
def f_X11_recover (F : Nat) (S0 : St) (p0 : Nat) (p1 : Int32) (p2 : Int32) : Option (Int32 × St) :=
  Option.bind (f_X11_isRef F S0 p0 p1 p2) fun z59 => lt z59.1 fun r61 => lt z59.2 fun S60 =>
  Option.bind (f_X11_isRef F S60 p0 p1 p2) fun z63 => lt z63.1 fun r65 => lt z63.2 fun S64 =>
  if r65 = 0 then
  (f_X11_recover_L25 F S64 p0 p1 p2 r61 p0)
  else
  (Option.bind (f_X11_isHidden F S64 p0 p1 p2) fun z68 => lt z68.1 fun r70 => lt z68.2 fun S69 =>
  if r70 = 0 then
  (f_X11_recover_L30 F S69 p0 p1 p2 0 r61 p0)
  else
  (f_X11_recover_L25 F S69 p0 p1 p2 r61 p0))
def f_X11_isActive (F : Nat) (S0 : St) (p0 : Nat) (p1 : Int32) : Option (Int32 × St) :=
  Option.bind (f_X11_isHold F S0 p0 p1) fun z1 => lt z1.1 fun r3 => lt z1.2 fun S2 =>
  Option.bind (f_X11_passes F S2 p0 r3) fun z5 => lt z5.1 fun r7 => lt z5.2 fun S6 =>
  if r7 = 0 then
  (some (0, S6))
  else
  (Option.bind (f_X11_holdValue F S6 p0 p1 ((3 : Int32))) fun z10 => lt z10.1 fun r12 => lt z10.2 fun S11 =>
  if ¬ r12 = 1 then
  (some (0, S11))
  else
  (some (1, S11)))
def f_X11_release_L63 (F : Nat) (k4 : St → Nat → Int32 → Int32 → Int32 → Option (Int32 × St)) (S0 : St) (v0 : Nat) (v1 : Int32) (v2 : Int32) (v3 : Int32) : Option (Int32 × St) :=
  lt (v3 + 1) fun x1 =>
  k4 S0 v0 v1 v2 x1
def f_X11_release_L4 (F : Nat) : Nat → St → Nat → Int32 → Int32 → Int32 → Option (Int32 × St)
  | 0, _, _, _, _, _ => none
  | fu + 1, S0, v0, v1, v2, v3 =>
    Option.bind (sr S0 1001 v0) fun j3 =>
    cki 7 (ln S0 j3) <|
    if (ai S0 j3 (Int32.toNatClampNeg 7)) ≤ v3 then
    (some (v2, S0))
    else
    (Option.bind (f_X11_isHidden F S0 v0 v3 v1) fun z6 => lt z6.1 fun r8 => lt z6.2 fun S7 =>
    if r8 = 0 then
    (f_X11_release_L63 F (fun a0 a1 a2 a3 a4 => f_X11_release_L4 F fu a0 a1 a2 a3 a4) S7 v0 v1 v2 v3)
    else
    (Option.bind (f_X11_covers F S7 v0 v3 v1) fun z11 => lt z11.1 fun r13 => lt z11.2 fun S12 =>
    if r13 = 0 then
    (Option.bind (sr S12 1001 v0) fun j16 =>
    Option.bind (f_X11_refAt F S12 v3 v1) fun z17 => lt z17.1 fun r19 => lt z17.2 fun S18 =>
    cki (r19 + 0) (ln S18 j16) <|
    lt (uai S18 j16 (Int32.toNatClampNeg (r19 + 0)) 3) fun S22 =>
    Option.bind (f_X11_log F S22 v0 ((4 : Int32)) v3) fun S24 =>
    Option.bind (f_X11_buryParts F S24 v0 v3) fun S28 =>
    lt (v2 + 1) fun x31 =>
    f_X11_release_L63 F (fun a0 a1 a2 a3 a4 => f_X11_release_L4 F fu a0 a1 a2 a3 a4) S28 v0 v1 x31 v3)
    else
    (f_X11_release_L63 F (fun a0 a1 a2 a3 a4 => f_X11_release_L4 F fu a0 a1 a2 a3 a4) S12 v0 v1 v2 v3)))
def f_X11_release (F : Nat) (S0 : St) (p0 : Nat) (p1 : Int32) : Option (Int32 × St) :=
  f_X11_release_L4 F F S0 p0 p1 0 0
def f_X11_setHold_L60 (F : Nat) (S0 : St) (v0 : Nat) (v1 : Int32) (v2 : Int32) (s0 : Int32) (s1 : Int32) (s2 : Nat) : Option (Int32 × St) :=
  cki s1 (ln S0 s2) <|
  lt (uai S0 s2 (Int32.toNatClampNeg s1) s0) fun S2 =>
  if v2 = 0 then
  (Option.bind (f_X11_holdValue F S2 v0 v1 ((0 : Int32))) fun z4 => lt z4.1 fun r6 => lt z4.2 fun S5 =>
  Option.bind (f_X11_release F S5 v0 r6) fun z8 => lt z8.1 fun r10 => lt z8.2 fun S9 =>
  some (r10, S9))
  else
  (some (0, S2))
def f_X11_setHold_L27 (F : Nat) (S0 : St) (v0 : Nat) (v1 : Int32) (v2 : Int32) (s0 : Int32) : Option (Int32 × St) :=
  if ¬ s0 = v2 then
  (Option.bind (f_X11_remember F S0 v0) fun S25 =>
  Option.bind (sr S25 1001 v0) fun j28 =>
  if v2 = 0 then
  (f_X11_setHold_L60 F S25 v0 v1 v2 0 ((205 + (21 * v1)) + 3) j28)
  else
  (f_X11_setHold_L60 F S25 v0 v1 v2 1 ((205 + (21 * v1)) + 3) j28))
  else
  (some (0, S0))
def f_X11_setHold (F : Nat) (S0 : St) (p0 : Nat) (p1 : Int32) (p2 : Int32) : Option (Int32 × St) :=
  Option.bind (f_X11_isHold F S0 p0 p1) fun z37 => lt z37.1 fun r39 => lt z37.2 fun S38 =>
  Option.bind (f_X11_passes F S38 p0 r39) fun z41 => lt z41.1 fun r43 => lt z41.2 fun S42 =>
  if r43 = 0 then
  (some (0, S42))
  else
  (Option.bind (f_X11_holdValue F S42 p0 p1 ((3 : Int32))) fun z46 => lt z46.1 fun r48 => lt z46.2 fun S47 =>
  if ¬ r48 = 1 then
  (f_X11_setHold_L27 F S47 p0 p1 p2 0)
  else
  (f_X11_setHold_L27 F S47 p0 p1 p2 1))
def f_X11_heldOnlyBy_L67 (F : Nat) (k26 : St → Nat → Int32 → Int32 → Int32 → Int32 → Option (Int32 × St)) (S0 : St) (v0 : Nat) (v1 : Int32) (v2 : Int32) (v4 : Int32) (s0 : Int32) (s1 : Int32) : Option (Int32 × St) :=
  lt (s1 + s0) fun x1 =>
  lt (v4 + 1) fun x2 =>
  k26 S0 v0 v1 v2 x1 x2
def f_X11_heldOnlyBy_L66 (F : Nat) (k26 : St → Nat → Int32 → Int32 → Int32 → Int32 → Option (Int32 × St)) (S0 : St) (v0 : Nat) (v1 : Int32) (v2 : Int32) (v4 : Int32) (s0 : Int32) : Option (Int32 × St) :=
  f_X11_heldOnlyBy_L67 F k26 S0 v0 v1 v2 v4 0 s0
def f_X11_heldOnlyBy_L26 (F : Nat) : Nat → St → Nat → Int32 → Int32 → Int32 → Int32 → Option (Int32 × St)
  | 0, _, _, _, _, _, _ => none
  | fu + 1, S0, v0, v1, v2, v3, v4 =>
    Option.bind (sr S0 1001 v0) fun j5 =>
    cki 7 (ln S0 j5) <|
    if (ai S0 j5 (Int32.toNatClampNeg 7)) ≤ v4 then
    (some (v3, S0))
    else
    (Option.bind (f_X11_isHidden F S0 v0 v4 v2) fun z8 => lt z8.1 fun r10 => lt z8.2 fun S9 =>
    if r10 = 0 then
    (f_X11_heldOnlyBy_L66 F (fun a0 a1 a2 a3 a4 a5 => f_X11_heldOnlyBy_L26 F fu a0 a1 a2 a3 a4 a5) S9 v0 v1 v2 v4 v3)
    else
    (Option.bind (f_X11_covers F S9 v0 v4 v2) fun z13 => lt z13.1 fun r15 => lt z13.2 fun S14 =>
    if ¬ r15 = (1 <<< (v1 &&& 31)) then
    (f_X11_heldOnlyBy_L66 F (fun a0 a1 a2 a3 a4 a5 => f_X11_heldOnlyBy_L26 F fu a0 a1 a2 a3 a4 a5) S14 v0 v1 v2 v4 v3)
    else
    (f_X11_heldOnlyBy_L67 F (fun a0 a1 a2 a3 a4 a5 => f_X11_heldOnlyBy_L26 F fu a0 a1 a2 a3 a4 a5) S14 v0 v1 v2 v4 1 v3)))
def f_X11_heldOnlyBy (F : Nat) (S0 : St) (p0 : Nat) (p1 : Int32) : Option (Int32 × St) :=
  Option.bind (f_X11_isHold F S0 p0 p1) fun z31 => lt z31.1 fun r33 => lt z31.2 fun S32 =>
  Option.bind (f_X11_passes F S32 p0 r33) fun z35 => lt z35.1 fun r37 => lt z35.2 fun S36 =>
  if ¬ r37 = 0 then
  (Option.bind (f_X11_holdValue F S36 p0 p1 ((0 : Int32))) fun z40 => lt z40.1 fun r42 => lt z40.2 fun S41 =>
  f_X11_heldOnlyBy_L26 F F S41 p0 p1 r42 0 0)
  else
  (some (0, S36))
def f_X11_setQuota (F : Nat) (S0 : St) (p0 : Nat) (p1 : Int32) (p2 : Int32) : Option (Int32 × St) :=
  Option.bind (f_X11_isUser F S0 p0 p1) fun z1 => lt z1.1 fun r3 => lt z1.2 fun S2 =>
  Option.bind (f_X11_in F S2 p2.toInt64 ((1 : Int64)) (((99999) : Int64))) fun z5 => lt z5.1 fun r7 => lt z5.2 fun S6 =>
  Option.bind (f_X11_passes2 F S6 p0 r3 r7) fun z9 => lt z9.1 fun r11 => lt z9.2 fun S10 =>
  if ¬ r11 = 0 then
  (Option.bind (sr S10 1001 p0) fun j14 =>
  cki ((83 + (8 * p1)) + 1) (ln S10 j14) <|
  lt (ai S10 j14 (Int32.toNatClampNeg ((83 + (8 * p1)) + 1))) fun x16 =>
  if ¬ x16 = p2 then
  (Option.bind (f_X11_remember F S10 p0) fun S19 =>
  Option.bind (sr S19 1001 p0) fun j22 =>
  cki ((83 + (8 * p1)) + 1) (ln S19 j22) <|
  lt (uai S19 j22 (Int32.toNatClampNeg ((83 + (8 * p1)) + 1)) p2) fun S24 =>
  some (x16, S24))
  else
  (some (x16, S10)))
  else
  (some (0, S10))
def f_X11_countLives_L90 (F : Nat) (k30 : St → Nat → Int32 → Option (St)) (k49 : St → Nat → Int32 → Int32 → Int32 → Option (St)) (S0 : St) (v0 : Nat) (v1 : Int32) (v2 : Int32) (v3 : Int32) : Option (St) :=
  lt (v2 + 3) fun x1 =>
  lt (v3 + 1) fun x2 =>
  k49 S0 v0 v1 x1 x2
def f_X11_countLives_L49 (F : Nat) (k30 : St → Nat → Int32 → Option (St)) : Nat → St → Nat → Int32 → Int32 → Int32 → Option (St)
  | 0, _, _, _, _, _ => none
  | fu + 1, S0, v0, v1, v2, v3 =>
    Option.bind (sr S0 1001 v0) fun j5 =>
    cki 4 (ln S0 j5) <|
    if (ai S0 j5 (Int32.toNatClampNeg 4)) ≤ v3 then
    (lt (v1 + 1) fun x8 =>
    k30 S0 v0 x8)
    else
    (Option.bind (sr S0 1001 v0) fun j9 =>
    cki v2 (ln S0 j9) <|
    if ¬ (ai S0 j9 (Int32.toNatClampNeg v2)) = 0 then
    (f_X11_countLives_L90 F k30 (fun a0 a1 a2 a3 a4 => f_X11_countLives_L49 F k30 fu a0 a1 a2 a3 a4) S0 v0 v1 v2 v3)
    else
    (Option.bind (sr S0 1019 v0) fun j12 =>
    Option.bind (sr S0 1001 v0) fun j13 =>
    cki (v2 + 1) (ln S0 j13) <|
    cki ((8 * v3) + (ai S0 j13 (Int32.toNatClampNeg (v2 + 1)))) (ln S0 j12) <|
    cki ((8 * v3) + (ai S0 j13 (Int32.toNatClampNeg (v2 + 1)))) (ln S0 j12) <|
    lt (uai S0 j12 (Int32.toNatClampNeg ((8 * v3) + (ai S0 j13 (Int32.toNatClampNeg (v2 + 1))))) ((ai S0 j12 (Int32.toNatClampNeg ((8 * v3) + (ai S0 j13 (Int32.toNatClampNeg (v2 + 1)))))) + 1)) fun S17 =>
    f_X11_countLives_L90 F k30 (fun a0 a1 a2 a3 a4 => f_X11_countLives_L49 F k30 fu a0 a1 a2 a3 a4) S17 v0 v1 v2 v3))
def f_X11_countLives_L30 (F : Nat) : Nat → St → Nat → Int32 → Option (St)
  | 0, _, _, _ => none
  | fu + 1, S0, v0, v1 =>
    Option.bind (sr S0 1001 v0) fun j31 =>
    cki 7 (ln S0 j31) <|
    if (ai S0 j31 (Int32.toNatClampNeg 7)) ≤ v1 then
    (some S0)
    else
    (Option.bind (f_X11_refAt F S0 v1 ((0 : Int32))) fun z34 => lt z34.1 fun r36 => lt z34.2 fun S35 =>
    f_X11_countLives_L49 F (fun a0 a1 a2 => f_X11_countLives_L30 F fu a0 a1 a2) F S35 v0 v1 r36 0)
def f_X11_countLives_L2 (F : Nat) : Nat → St → Nat → Int32 → Option (St)
  | 0, _, _, _ => none
  | fu + 1, S0, v0, v1 =>
    if 80 ≤ v1 then
    (f_X11_countLives_L30 F F S0 v0 0)
    else
    (Option.bind (sr S0 1019 v0) fun j46 =>
    cki v1 (ln S0 j46) <|
    lt (uai S0 j46 (Int32.toNatClampNeg v1) 0) fun S48 =>
    Option.bind (sr S48 1020 v0) fun j49 =>
    cki v1 (ln S48 j49) <|
    lt (uai S48 j49 (Int32.toNatClampNeg v1) 0) fun S51 =>
    lt (v1 + 1) fun x52 =>
    (fun a0 a1 a2 => f_X11_countLives_L2 F fu a0 a1 a2) S51 v0 x52)
def f_X11_countLives (F : Nat) (S0 : St) (p0 : Nat) : Option (St) :=
  f_X11_countLives_L2 F F S0 p0 0
def f_X11_isDue (F : Nat) (S0 : St) (p0 : Nat) (p1 : Int32) (p2 : Int32) : Option (Int32 × St) :=
  Option.bind (sr S0 1001 p0) fun j1 =>
  cki (p1 + 1) (ln S0 j1) <|
  lt (ai S0 j1 (Int32.toNatClampNeg (p1 + 1))) fun x3 =>
  Option.bind (sr S0 1001 p0) fun j4 =>
  cki ((11 + (9 * x3)) + 0) (ln S0 j4) <|
  lt (ai S0 j4 (Int32.toNatClampNeg ((11 + (9 * x3)) + 0))) fun x6 =>
  if x6 = ((-1)) then
  (some (0, S0))
  else
  (Option.bind (sr S0 1001 p0) fun j8 =>
  cki 2 (ln S0 j8) <|
  Option.bind (sr S0 1001 p0) fun j10 =>
  cki (p1 + 2) (ln S0 j10) <|
  if x6 ≤ ((ai S0 j8 (Int32.toNatClampNeg 2)) - (ai S0 j10 (Int32.toNatClampNeg (p1 + 2)))) then
  (lt ((8 * p2) + x3) fun x13 =>
  Option.bind (sr S0 1019 p0) fun j14 =>
  cki x13 (ln S0 j14) <|
  Option.bind (sr S0 1020 p0) fun j16 =>
  cki x13 (ln S0 j16) <|
  Option.bind (sr S0 1001 p0) fun j18 =>
  cki ((11 + (9 * x3)) + 1) (ln S0 j18) <|
  if (((ai S0 j14 (Int32.toNatClampNeg x13)) - (ai S0 j16 (Int32.toNatClampNeg x13))) - 1) < (ai S0 j18 (Int32.toNatClampNeg ((11 + (9 * x3)) + 1))) then
  (some (0, S0))
  else
  (some (1, S0)))
  else
  (some (0, S0)))
def f_X11_leave (F : Nat) (S0 : St) (p0 : Nat) (p1 : Int32) (p2 : Int32) (p3 : Int32) : Option (St) :=
  Option.bind (sr S0 1019 p0) fun j1 =>
  Option.bind (sr S0 1001 p0) fun j2 =>
  Option.bind (f_X11_refAt F S0 p1 p2) fun z3 => lt z3.1 fun r5 => lt z3.2 fun S4 =>
  cki (r5 + 1) (ln S4 j2) <|
  cki ((8 * p2) + (ai S4 j2 (Int32.toNatClampNeg (r5 + 1)))) (ln S4 j1) <|
  cki ((8 * p2) + (ai S4 j2 (Int32.toNatClampNeg (r5 + 1)))) (ln S4 j1) <|
  lt (uai S4 j1 (Int32.toNatClampNeg ((8 * p2) + (ai S4 j2 (Int32.toNatClampNeg (r5 + 1))))) ((ai S4 j1 (Int32.toNatClampNeg ((8 * p2) + (ai S4 j2 (Int32.toNatClampNeg (r5 + 1)))))) - 1)) fun S10 =>
  if ¬ p3 = ((-1)) then
  (Option.bind (f_X11_enter F S10 p0 p1 p2 p3) fun S13 =>
  Option.bind (sr S13 1019 p0) fun j16 =>
  cki ((8 * p2) + p3) (ln S13 j16) <|
  cki ((8 * p2) + p3) (ln S13 j16) <|
  lt (uai S13 j16 (Int32.toNatClampNeg ((8 * p2) + p3)) ((ai S13 j16 (Int32.toNatClampNeg ((8 * p2) + p3))) + 1)) fun S19 =>
  Option.bind (f_X11_log F S19 p0 ((3 : Int32)) p1) fun S21 =>
  some S21)
  else
  (Option.bind (f_X11_ceases F S10 p0 p1 p2 ((2 : Int32))) fun z24 => lt z24.1 fun r26 => lt z24.2 fun S25 =>
  some S25)
def f_X11_leaveAll_L112 (F : Nat) (k8 : St → Nat → Int32 → Int32 → Option (Int32 × St)) (k28 : St → Nat → Int32 → Int32 → Int32 → Int32 → Option (Int32 × St)) (S0 : St) (v0 : Nat) (v1 : Int32) (v2 : Int32) (v3 : Int32) (v4 : Int32) : Option (Int32 × St) :=
  lt (v3 + 3) fun x1 =>
  lt (v4 + 1) fun x2 =>
  k28 S0 v0 v1 v2 x1 x2
def f_X11_leaveAll_L80 (F : Nat) (k8 : St → Nat → Int32 → Int32 → Option (Int32 × St)) (k28 : St → Nat → Int32 → Int32 → Int32 → Int32 → Option (Int32 × St)) (S0 : St) (v0 : Nat) (v1 : Int32) (v2 : Int32) (v3 : Int32) (v4 : Int32) : Option (Int32 × St) :=
  Option.bind (sr S0 1001 v0) fun j5 =>
  cki v3 (ln S0 j5) <|
  if ¬ (ai S0 j5 (Int32.toNatClampNeg v3)) = 0 then
  (f_X11_leaveAll_L112 F k8 k28 S0 v0 v1 v2 v3 v4)
  else
  (Option.bind (sr S0 1020 v0) fun j8 =>
  Option.bind (sr S0 1001 v0) fun j9 =>
  cki (v3 + 1) (ln S0 j9) <|
  cki ((8 * v4) + (ai S0 j9 (Int32.toNatClampNeg (v3 + 1)))) (ln S0 j8) <|
  cki ((8 * v4) + (ai S0 j9 (Int32.toNatClampNeg (v3 + 1)))) (ln S0 j8) <|
  lt (uai S0 j8 (Int32.toNatClampNeg ((8 * v4) + (ai S0 j9 (Int32.toNatClampNeg (v3 + 1))))) ((ai S0 j8 (Int32.toNatClampNeg ((8 * v4) + (ai S0 j9 (Int32.toNatClampNeg (v3 + 1)))))) + 1)) fun S13 =>
  f_X11_leaveAll_L112 F k8 k28 S13 v0 v1 v2 v3 v4)
def f_X11_leaveAll_L28 (F : Nat) (k8 : St → Nat → Int32 → Int32 → Option (Int32 × St)) : Nat → St → Nat → Int32 → Int32 → Int32 → Int32 → Option (Int32 × St)
  | 0, _, _, _, _, _, _ => none
  | fu + 1, S0, v0, v1, v2, v3, v4 =>
    Option.bind (sr S0 1001 v0) fun j23 =>
    cki 4 (ln S0 j23) <|
    if (ai S0 j23 (Int32.toNatClampNeg 4)) ≤ v4 then
    (lt (v2 + 1) fun x26 =>
    k8 S0 v0 v1 x26)
    else
    (Option.bind (sr S0 1001 v0) fun j27 =>
    cki v3 (ln S0 j27) <|
    if ¬ (ai S0 j27 (Int32.toNatClampNeg v3)) = 0 then
    (f_X11_leaveAll_L80 F k8 (fun a0 a1 a2 a3 a4 a5 => f_X11_leaveAll_L28 F k8 fu a0 a1 a2 a3 a4 a5) S0 v0 v1 v2 v3 v4)
    else
    (Option.bind (f_X11_isDue F S0 v0 v3 v4) fun z30 => lt z30.1 fun r32 => lt z30.2 fun S31 =>
    if r32 = 0 then
    (f_X11_leaveAll_L80 F k8 (fun a0 a1 a2 a3 a4 a5 => f_X11_leaveAll_L28 F k8 fu a0 a1 a2 a3 a4 a5) S31 v0 v1 v2 v3 v4)
    else
    (Option.bind (sr S31 1001 v0) fun j35 =>
    cki (v3 + 1) (ln S31 j35) <|
    Option.bind (f_X11_classValue F S31 v0 (ai S31 j35 (Int32.toNatClampNeg (v3 + 1))) ((2 : Int32))) fun z37 => lt z37.1 fun r39 => lt z37.2 fun S38 =>
    Option.bind (f_X11_leave F S38 v0 v2 v4 r39) fun S42 =>
    f_X11_leaveAll_L80 F k8 (fun a0 a1 a2 a3 a4 a5 => f_X11_leaveAll_L28 F k8 fu a0 a1 a2 a3 a4 a5) S42 v0 1 v2 v3 v4)))
def f_X11_leaveAll_L8 (F : Nat) : Nat → St → Nat → Int32 → Int32 → Option (Int32 × St)
  | 0, _, _, _, _ => none
  | fu + 1, S0, v0, v1, v2 =>
    Option.bind (sr S0 1001 v0) fun j67 =>
    cki 7 (ln S0 j67) <|
    if (ai S0 j67 (Int32.toNatClampNeg 7)) ≤ v2 then
    (ck (v1 = 0 ∨ v1 = 1) <| some (v1, S0))
    else
    (Option.bind (f_X11_refAt F S0 v2 ((0 : Int32))) fun z71 => lt z71.1 fun r73 => lt z71.2 fun S72 =>
    f_X11_leaveAll_L28 F (fun a0 a1 a2 a3 => f_X11_leaveAll_L8 F fu a0 a1 a2 a3) F S72 v0 v1 v2 r73 0)
def f_X11_leaveAll (F : Nat) (S0 : St) (p0 : Nat) : Option (Int32 × St) :=
  Option.bind (f_X11_countLives F S0 p0) fun S84 =>
  f_X11_leaveAll_L8 F F S84 p0 0 0
def f_X11_layAging_L119 (F : Nat) (k9 : St → Nat → Int32 → Option (St)) (k28 : St → Nat → Int32 → Int32 → Int32 → Option (St)) (S0 : St) (v0 : Nat) (v1 : Int32) (v2 : Int32) (v3 : Int32) : Option (St) :=
  lt (v2 + 3) fun x1 =>
  lt (v3 + 1) fun x2 =>
  k28 S0 v0 v1 x1 x2
def f_X11_layAging_L72 (F : Nat) (k9 : St → Nat → Int32 → Option (St)) (k28 : St → Nat → Int32 → Int32 → Int32 → Option (St)) (S0 : St) (v0 : Nat) (v1 : Int32) (v2 : Int32) (v3 : Int32) (s0 : Int32) : Option (St) :=
  Option.bind (sr S0 1001 v0) fun j5 =>
  cki (v2 + 2) (ln S0 j5) <|
  lt ((ai S0 j5 (Int32.toNatClampNeg (v2 + 2))) + s0) fun x7 =>
  if s0 = ((-1)) then
  (f_X11_layAging_L119 F k9 k28 S0 v0 v1 v2 v3)
  else
  (Option.bind (sr S0 1001 v0) fun j9 =>
  cki 2 (ln S0 j9) <|
  if x7 ≤ (ai S0 j9 (Int32.toNatClampNeg 2)) then
  (f_X11_layAging_L119 F k9 k28 S0 v0 v1 v2 v3)
  else
  (if (si S0 1022 v0) ≤ x7 then
  (f_X11_layAging_L119 F k9 k28 S0 v0 v1 v2 v3)
  else
  (lt (ui S0 1022 v0 x7) fun S13 =>
  f_X11_layAging_L119 F k9 k28 S13 v0 v1 v2 v3)))
def f_X11_layAging_L28 (F : Nat) (k9 : St → Nat → Int32 → Option (St)) : Nat → St → Nat → Int32 → Int32 → Int32 → Option (St)
  | 0, _, _, _, _, _ => none
  | fu + 1, S0, v0, v1, v2, v3 =>
    Option.bind (sr S0 1001 v0) fun j23 =>
    cki 4 (ln S0 j23) <|
    if (ai S0 j23 (Int32.toNatClampNeg 4)) ≤ v3 then
    (lt (v1 + 1) fun x26 =>
    k9 S0 v0 x26)
    else
    (Option.bind (sr S0 1001 v0) fun j27 =>
    cki v2 (ln S0 j27) <|
    if ¬ (ai S0 j27 (Int32.toNatClampNeg v2)) = 0 then
    (f_X11_layAging_L72 F k9 (fun a0 a1 a2 a3 a4 => f_X11_layAging_L28 F k9 fu a0 a1 a2 a3 a4) S0 v0 v1 v2 v3 ((-1)))
    else
    (Option.bind (sr S0 1001 v0) fun j30 =>
    Option.bind (sr S0 1001 v0) fun j31 =>
    cki (v2 + 1) (ln S0 j31) <|
    cki ((11 + (9 * (ai S0 j31 (Int32.toNatClampNeg (v2 + 1))))) + 0) (ln S0 j30) <|
    f_X11_layAging_L72 F k9 (fun a0 a1 a2 a3 a4 => f_X11_layAging_L28 F k9 fu a0 a1 a2 a3 a4) S0 v0 v1 v2 v3 (ai S0 j30 (Int32.toNatClampNeg ((11 + (9 * (ai S0 j31 (Int32.toNatClampNeg (v2 + 1))))) + 0)))))
def f_X11_layAging_L9 (F : Nat) : Nat → St → Nat → Int32 → Option (St)
  | 0, _, _, _ => none
  | fu + 1, S0, v0, v1 =>
    Option.bind (sr S0 1001 v0) fun j45 =>
    cki 7 (ln S0 j45) <|
    if (ai S0 j45 (Int32.toNatClampNeg 7)) ≤ v1 then
    (some S0)
    else
    (Option.bind (f_X11_refAt F S0 v1 ((0 : Int32))) fun z48 => lt z48.1 fun r50 => lt z48.2 fun S49 =>
    f_X11_layAging_L28 F (fun a0 a1 a2 => f_X11_layAging_L9 F fu a0 a1 a2) F S49 v0 v1 r50 0)
def f_X11_layAging (F : Nat) (S0 : St) (p0 : Nat) : Option (St) :=
  lt (ui S0 1022 p0 2147483647) fun S59 =>
  f_X11_layAging_L9 F F S59 p0 0
def f_X11_leaveInThought_L34 (F : Nat) (S0 : St) (v0 : Nat) (s0 : Int32) (s1 : Nat) : Option (St) :=
  ck (s0 = 0 ∨ s0 = 1) <|
  lt (ui S0 1021 s1 s0) fun S2 =>
  Option.bind (f_X11_layAging F S2 v0) fun S4 =>
  some S4
def f_X11_leaveInThought_L21 (F : Nat) (S0 : St) (v0 : Nat) : Option (St) :=
  Option.bind (f_X11_leaveAll F S0 v0) fun z13 => lt z13.1 fun r15 => lt z13.2 fun S14 =>
  if ¬ r15 = 0 then
  (f_X11_leaveInThought_L34 F S14 v0 0 v0)
  else
  (f_X11_leaveInThought_L34 F S14 v0 1 v0)
def f_X11_leaveInThought (F : Nat) (S0 : St) (p0 : Nat) : Option (St) :=
  if (si S0 1021 p0) = 0 then
  (f_X11_leaveInThought_L21 F S0 p0)
  else
  (Option.bind (sr S0 1001 p0) fun j24 =>
  cki 2 (ln S0 j24) <|
  if (si S0 1022 p0) ≤ (ai S0 j24 (Int32.toNatClampNeg 2)) then
  (f_X11_leaveInThought_L21 F S0 p0)
  else
  (some S0))
def f_X11_round_L81 (F : Nat) (k4 : St → Nat → Int32 → Int32 → Option (Int32 × St)) (S0 : St) (v0 : Nat) (v1 : Int32) (v2 : Int32) : Option (Int32 × St) :=
  lt (v2 + 1) fun x1 =>
  k4 S0 v0 v1 x1
def f_X11_round_L4 (F : Nat) : Nat → St → Nat → Int32 → Int32 → Option (Int32 × St)
  | 0, _, _, _, _ => none
  | fu + 1, S0, v0, v1, v2 =>
    Option.bind (sr S0 1001 v0) fun j3 =>
    cki 8 (ln S0 j3) <|
    if (ai S0 j3 (Int32.toNatClampNeg 8)) ≤ v2 then
    (Option.bind (f_X11_log F S0 v0 ((9 : Int32)) v1) fun S7 =>
    some (v1, S7))
    else
    (Option.bind (f_X11_isStored F S0 v0 v2) fun z10 => lt z10.1 fun r12 => lt z10.2 fun S11 =>
    if r12 = 0 then
    (f_X11_round_L81 F (fun a0 a1 a2 a3 => f_X11_round_L4 F fu a0 a1 a2 a3) S11 v0 v1 v2)
    else
    (Option.bind (f_X11_isDead F S11 v0 v2) fun z15 => lt z15.1 fun r17 => lt z15.2 fun S16 =>
    if r17 = 0 then
    (f_X11_round_L81 F (fun a0 a1 a2 a3 => f_X11_round_L4 F fu a0 a1 a2 a3) S16 v0 v1 v2)
    else
    (Option.bind (sr S16 1001 v0) fun j20 =>
    cki 2 (ln S16 j20) <|
    Option.bind (f_X11_partValue F S16 v0 v2 ((2 : Int32))) fun z22 => lt z22.1 fun r24 => lt z22.2 fun S23 =>
    Option.bind (sr S23 1001 v0) fun j26 =>
    cki 0 (ln S23 j26) <|
    if (ai S23 j26 (Int32.toNatClampNeg 0)) ≤ ((ai S16 j20 (Int32.toNatClampNeg 2)) - r24) then
    (Option.bind (sr S23 1001 v0) fun j29 =>
    cki ((4771 + (3 * v2)) + 1) (ln S23 j29) <|
    lt (uai S23 j29 (Int32.toNatClampNeg ((4771 + (3 * v2)) + 1)) 0) fun S31 =>
    Option.bind (f_X11_log F S31 v0 ((8 : Int32)) v2) fun S33 =>
    lt (v1 + 1) fun x36 =>
    f_X11_round_L81 F (fun a0 a1 a2 a3 => f_X11_round_L4 F fu a0 a1 a2 a3) S33 v0 x36 v2)
    else
    (f_X11_round_L81 F (fun a0 a1 a2 a3 => f_X11_round_L4 F fu a0 a1 a2 a3) S23 v0 v1 v2))))
def f_X11_round (F : Nat) (S0 : St) (p0 : Nat) : Option (Int32 × St) :=
  f_X11_round_L4 F F S0 p0 0 0
def f_X11_passDay_L65 (F : Nat) (S0 : St) (v0 : Nat) (s0 : Int32) : Option (Int32 × St) :=
  Option.bind (sr S0 1001 v0) fun j1 =>
  cki 2 (ln S0 j1) <|
  Option.bind (f_X11_log F S0 v0 ((10 : Int32)) (ai S0 j1 (Int32.toNatClampNeg 2))) fun S4 =>
  some (s0, S4)
def f_X11_passDay_L41 (F : Nat) (S0 : St) (v0 : Nat) : Option (Int32 × St) :=
  Option.bind (sr S0 1001 v0) fun j13 =>
  cki 2 (ln S0 j13) <|
  Option.bind (sr S0 1001 v0) fun j15 =>
  cki 1 (ln S0 j15) <|
  ck (¬ (ai S0 j15 (Int32.toNatClampNeg 1)) = 0) <|
  if ¬ ((ai S0 j13 (Int32.toNatClampNeg 2)) - (ai S0 j13 (Int32.toNatClampNeg 2)) / (ai S0 j15 (Int32.toNatClampNeg 1)) * (ai S0 j15 (Int32.toNatClampNeg 1))) = 0 then
  (f_X11_passDay_L65 F S0 v0 0)
  else
  (Option.bind (f_X11_round F S0 v0) fun z19 => lt z19.1 fun r21 => lt z19.2 fun S20 =>
  f_X11_passDay_L65 F S20 v0 r21)
def f_X11_passDay_L29 (F : Nat) (S0 : St) (v0 : Nat) (s0 : Int32) : Option (Int32 × St) :=
  if (si S0 1005 v0) = 0 then
  (f_X11_passDay_L41 F S0 v0)
  else
  (Option.bind (f_X11_leaveInThought F S0 v0) fun S35 =>
  f_X11_passDay_L41 F S35 v0)
def f_X11_passDay_L28 (F : Nat) (S0 : St) (v0 : Nat) : Option (Int32 × St) :=
  f_X11_passDay_L29 F S0 v0 0
def f_X11_passDay (F : Nat) (S0 : St) (p0 : Nat) : Option (Int32 × St) :=
  Option.bind (sr S0 1001 p0) fun j43 =>
  cki 2 (ln S0 j43) <|
  cki 2 (ln S0 j43) <|
  lt (uai S0 j43 (Int32.toNatClampNeg 2) ((ai S0 j43 (Int32.toNatClampNeg 2)) + 1)) fun S46 =>
  if ¬ (si S46 1005 p0) = 0 then
  (f_X11_passDay_L28 F S46 p0)
  else
  (Option.bind (f_X11_leaveAll F S46 p0) fun z48 => lt z48.1 fun r50 => lt z48.2 fun S49 =>
  if r50 = 0 then
  (f_X11_passDay_L28 F S49 p0)
  else
  (f_X11_passDay_L29 F S49 p0 1))
def f_X11_advance_L48 (F : Nat) : Nat → St → Nat → Int32 → Int32 → Int32 → Option (Int32 × St)
  | 0, _, _, _, _, _ => none
  | fu + 1, S0, v0, v1, v2, v3 =>
    if v1 ≤ v3 then
    (some (v2, S0))
    else
    (Option.bind (f_X11_passDay F S0 v0) fun z2 => lt z2.1 fun r4 => lt z2.2 fun S3 =>
    lt (v2 + r4) fun x6 =>
    lt (v3 + 1) fun x7 =>
    (fun a0 a1 a2 a3 a4 => f_X11_advance_L48 F fu a0 a1 a2 a3 a4) S3 v0 v1 x6 x7)
def f_X11_advance_L32 (F : Nat) (S0 : St) (v0 : Nat) (v1 : Int32) (s0 : Int32) (s1 : Int32) (s2 : Nat) : Option (Int32 × St) :=
  Option.bind (f_X11_passes2 F S0 s2 s1 s0) fun z15 => lt z15.1 fun r17 => lt z15.2 fun S16 =>
  if ¬ r17 = 0 then
  (Option.bind (f_X11_remember F S16 v0) fun S21 =>
  f_X11_advance_L48 F F S21 v0 v1 0 0)
  else
  (some (0, S16))
def f_X11_advance (F : Nat) (S0 : St) (p0 : Nat) (p1 : Int32) : Option (Int32 × St) :=
  Option.bind (f_X11_in F S0 p1.toInt64 ((1 : Int64)) (((1000) : Int64))) fun z33 => lt z33.1 fun r35 => lt z33.2 fun S34 =>
  Option.bind (sr S34 1001 p0) fun j37 =>
  cki 2 (ln S34 j37) <|
  if 0 < (lg_cmp (((ai S34 j37 (Int32.toNatClampNeg 2)).toInt64) + p1.toInt64) ((20000))) then
  (f_X11_advance_L32 F S34 p0 p1 0 r35 p0)
  else
  (f_X11_advance_L32 F S34 p0 p1 1 r35 p0)
def f_X11_nextRound (F : Nat) (S0 : St) (p0 : Nat) : Option (Int32 × St) :=
  lt (ui S0 1000 p0 0) fun S1 =>
  Option.bind (sr S1 1001 p0) fun j2 =>
  cki 2 (ln S1 j2) <|
  Option.bind (sr S1 1001 p0) fun j4 =>
  cki 1 (ln S1 j4) <|
  ck (¬ (ai S1 j4 (Int32.toNatClampNeg 1)) = 0) <|
  Option.bind (sr S1 1001 p0) fun j7 =>
  cki 1 (ln S1 j7) <|
  some ((((ai S1 j2 (Int32.toNatClampNeg 2)) / (ai S1 j4 (Int32.toNatClampNeg 1))) + 1) * (ai S1 j7 (Int32.toNatClampNeg 1)), S1)
def f_X11_beginThought_L2 (F : Nat) : Nat → St → Nat → Int32 → Option (St)
  | 0, _, _, _ => none
  | fu + 1, S0, v0, v1 =>
    if 6391 ≤ v1 then
    (lt (ui S0 1005 v0 1) fun S2 =>
    lt (ui S2 1021 v0 0) fun S3 =>
    some S3)
    else
    (Option.bind (sr S0 1023 v0) fun j4 =>
    Option.bind (sr S0 1001 v0) fun j5 =>
    cki v1 (ln S0 j5) <|
    cki v1 (ln S0 j4) <|
    lt (uai S0 j4 (Int32.toNatClampNeg v1) (ai S0 j5 (Int32.toNatClampNeg v1))) fun S8 =>
    lt (v1 + 1) fun x9 =>
    (fun a0 a1 a2 => f_X11_beginThought_L2 F fu a0 a1 a2) S8 v0 x9)
def f_X11_beginThought (F : Nat) (S0 : St) (p0 : Nat) : Option (St) :=
  f_X11_beginThought_L2 F F S0 p0 0
def f_X11_endThought_L2 (F : Nat) : Nat → St → Nat → Int32 → Option (St)
  | 0, _, _, _ => none
  | fu + 1, S0, v0, v1 =>
    if 6391 ≤ v1 then
    (lt (ui S0 1005 v0 0) fun S2 =>
    some S2)
    else
    (Option.bind (sr S0 1001 v0) fun j3 =>
    Option.bind (sr S0 1023 v0) fun j4 =>
    cki v1 (ln S0 j4) <|
    cki v1 (ln S0 j3) <|
    lt (uai S0 j3 (Int32.toNatClampNeg v1) (ai S0 j4 (Int32.toNatClampNeg v1))) fun S7 =>
    lt (v1 + 1) fun x8 =>
    (fun a0 a1 a2 => f_X11_endThought_L2 F fu a0 a1 a2) S7 v0 x8)
def f_X11_endThought (F : Nat) (S0 : St) (p0 : Nat) : Option (St) :=
  f_X11_endThought_L2 F F S0 p0 0
def f_X11_removedOn_L64 (F : Nat) (S0 : St) (v0 : Nat) (s0 : Int32) : Option (Int32 × St) :=
  Option.bind (f_X11_endThought F S0 v0) fun S2 =>
  some (s0, S2)
def f_X11_removedOn_L46 (F : Nat) (S0 : St) (v0 : Nat) (v1 : Int32) : Option (Int32 × St) :=
  Option.bind (f_X11_isStored F S0 v0 v1) fun z9 => lt z9.1 fun r11 => lt z9.2 fun S10 =>
  if r11 = 0 then
  (Option.bind (sr S10 1001 v0) fun j14 =>
  cki 2 (ln S10 j14) <|
  f_X11_removedOn_L64 F S10 v0 (ai S10 j14 (Int32.toNatClampNeg 2)))
  else
  (f_X11_removedOn_L64 F S10 v0 ((-1)))
def f_X11_removedOn_L20 (F : Nat) : Nat → St → Nat → Int32 → Int32 → Option (Int32 × St)
  | 0, _, _, _, _ => none
  | fu + 1, S0, v0, v1, v2 =>
    if 2000 ≤ v2 then
    (f_X11_removedOn_L46 F S0 v0 v1)
    else
    (Option.bind (f_X11_isStored F S0 v0 v1) fun z24 => lt z24.1 fun r26 => lt z24.2 fun S25 =>
    if r26 = 0 then
    (f_X11_removedOn_L46 F S25 v0 v1)
    else
    (Option.bind (f_X11_passDay F S25 v0) fun z29 => lt z29.1 fun r31 => lt z29.2 fun S30 =>
    lt (v2 + 1) fun x33 =>
    (fun a0 a1 a2 a3 => f_X11_removedOn_L20 F fu a0 a1 a2 a3) S30 v0 v1 x33))
def f_X11_removedOn (F : Nat) (S0 : St) (p0 : Nat) (p1 : Int32) : Option (Int32 × St) :=
  Option.bind (f_X11_isStored F S0 p0 p1) fun z45 => lt z45.1 fun r47 => lt z45.2 fun S46 =>
  Option.bind (f_X11_passes F S46 p0 r47) fun z49 => lt z49.1 fun r51 => lt z49.2 fun S50 =>
  if ¬ r51 = 0 then
  (Option.bind (f_X11_beginThought F S50 p0) fun S55 =>
  f_X11_removedOn_L20 F F S55 p0 p1 0)
  else
  (some (0, S50))
def f_X11_emptyOn_L53 (F : Nat) (S0 : St) (v0 : Nat) (s0 : Int32) : Option (Int32 × St) :=
  Option.bind (f_X11_endThought F S0 v0) fun S2 =>
  some (s0, S2)
def f_X11_emptyOn_L36 (F : Nat) (S0 : St) (v0 : Nat) : Option (Int32 × St) :=
  Option.bind (f_X11_stored F S0 v0) fun z9 => lt z9.1 fun r11 => lt z9.2 fun S10 =>
  if r11 ≤ 0 then
  (Option.bind (sr S10 1001 v0) fun j14 =>
  cki 2 (ln S10 j14) <|
  f_X11_emptyOn_L53 F S10 v0 (ai S10 j14 (Int32.toNatClampNeg 2)))
  else
  (f_X11_emptyOn_L53 F S10 v0 ((-1)))
def f_X11_emptyOn_L11 (F : Nat) : Nat → St → Nat → Int32 → Option (Int32 × St)
  | 0, _, _, _ => none
  | fu + 1, S0, v0, v1 =>
    if 2000 ≤ v1 then
    (f_X11_emptyOn_L36 F S0 v0)
    else
    (Option.bind (f_X11_stored F S0 v0) fun z24 => lt z24.1 fun r26 => lt z24.2 fun S25 =>
    if r26 ≤ 0 then
    (f_X11_emptyOn_L36 F S25 v0)
    else
    (Option.bind (f_X11_passDay F S25 v0) fun z29 => lt z29.1 fun r31 => lt z29.2 fun S30 =>
    lt (v1 + 1) fun x33 =>
    (fun a0 a1 a2 => f_X11_emptyOn_L11 F fu a0 a1 a2) S30 v0 x33))
def f_X11_emptyOn (F : Nat) (S0 : St) (p0 : Nat) : Option (Int32 × St) :=
  lt (ui S0 1000 p0 0) fun S45 =>
  Option.bind (f_X11_beginThought F S45 p0) fun S47 =>
  f_X11_emptyOn_L11 F F S47 p0 0
def f_X11_areDays (F : Nat) (S0 : St) (p0 : Int32) : Option (Int32 × St) :=
  Option.bind (f_X11_in F S0 p0.toInt64 ((0 : Int64)) (((2000) : Int64))) fun z1 => lt z1.1 fun r3 => lt z1.2 fun S2 =>
  ck (r3 = 0 ∨ r3 = 1) <| some (r3, S2)
def f_X11_bytesAfter_L19 (F : Nat) : Nat → St → Nat → Int32 → Int32 → Option (Int32 × St)
  | 0, _, _, _, _ => none
  | fu + 1, S0, v0, v1, v2 =>
    if v1 ≤ v2 then
    (Option.bind (f_X11_stored F S0 v0) fun z2 => lt z2.1 fun r4 => lt z2.2 fun S3 =>
    Option.bind (f_X11_endThought F S3 v0) fun S7 =>
    some (r4, S7))
    else
    (Option.bind (f_X11_passDay F S0 v0) fun z10 => lt z10.1 fun r12 => lt z10.2 fun S11 =>
    lt (v2 + 1) fun x14 =>
    (fun a0 a1 a2 a3 => f_X11_bytesAfter_L19 F fu a0 a1 a2 a3) S11 v0 v1 x14)
def f_X11_bytesAfter (F : Nat) (S0 : St) (p0 : Nat) (p1 : Int32) : Option (Int32 × St) :=
  Option.bind (f_X11_areDays F S0 p1) fun z29 => lt z29.1 fun r31 => lt z29.2 fun S30 =>
  Option.bind (f_X11_passes F S30 p0 r31) fun z33 => lt z33.1 fun r35 => lt z33.2 fun S34 =>
  if ¬ r35 = 0 then
  (Option.bind (f_X11_beginThought F S34 p0) fun S39 =>
  f_X11_bytesAfter_L19 F F S39 p0 p1 0)
  else
  (some (0, S34))
def f_X11_livesOf_L30 (F : Nat) (k4 : St → Nat → Int32 → Int32 → Int32 → Option (Int32 × St)) (S0 : St) (v0 : Nat) (v1 : Int32) (v3 : Int32) (s0 : Int32) (s1 : Int32) : Option (Int32 × St) :=
  lt (s1 + s0) fun x1 =>
  lt (v3 + 1) fun x2 =>
  k4 S0 v0 v1 x1 x2
def f_X11_livesOf_L4 (F : Nat) : Nat → St → Nat → Int32 → Int32 → Int32 → Option (Int32 × St)
  | 0, _, _, _, _, _ => none
  | fu + 1, S0, v0, v1, v2, v3 =>
    Option.bind (sr S0 1001 v0) fun j5 =>
    cki 7 (ln S0 j5) <|
    if (ai S0 j5 (Int32.toNatClampNeg 7)) ≤ v3 then
    (some (v2, S0))
    else
    (Option.bind (f_X11_isLive F S0 v0 v3 v1) fun z8 => lt z8.1 fun r10 => lt z8.2 fun S9 =>
    if r10 = 0 then
    (f_X11_livesOf_L30 F (fun a0 a1 a2 a3 a4 => f_X11_livesOf_L4 F fu a0 a1 a2 a3 a4) S9 v0 v1 v3 0 v2)
    else
    (f_X11_livesOf_L30 F (fun a0 a1 a2 a3 a4 => f_X11_livesOf_L4 F fu a0 a1 a2 a3 a4) S9 v0 v1 v3 1 v2))
def f_X11_livesOf (F : Nat) (S0 : St) (p0 : Nat) (p1 : Int32) : Option (Int32 × St) :=
  f_X11_livesOf_L4 F F S0 p0 p1 0 0
def f_X11_goneAfter_L31 (F : Nat) : Nat → St → Nat → Int32 → Int32 → Int32 → Int32 → Option (Int32 × St)
  | 0, _, _, _, _, _, _ => none
  | fu + 1, S0, v0, v1, v2, v3, v4 =>
    if v2 ≤ v4 then
    (Option.bind (f_X11_livesOf F S0 v0 v1) fun z2 => lt z2.1 fun r4 => lt z2.2 fun S3 =>
    Option.bind (f_X11_endThought F S3 v0) fun S7 =>
    some (v3 - r4, S7))
    else
    (Option.bind (f_X11_passDay F S0 v0) fun z10 => lt z10.1 fun r12 => lt z10.2 fun S11 =>
    lt (v4 + 1) fun x14 =>
    (fun a0 a1 a2 a3 a4 a5 => f_X11_goneAfter_L31 F fu a0 a1 a2 a3 a4 a5) S11 v0 v1 v2 v3 x14)
def f_X11_goneAfter (F : Nat) (S0 : St) (p0 : Nat) (p1 : Int32) (p2 : Int32) : Option (Int32 × St) :=
  Option.bind (f_X11_isUser F S0 p0 p1) fun z29 => lt z29.1 fun r31 => lt z29.2 fun S30 =>
  Option.bind (f_X11_areDays F S30 p2) fun z33 => lt z33.1 fun r35 => lt z33.2 fun S34 =>
  Option.bind (f_X11_passes2 F S34 p0 r31 r35) fun z37 => lt z37.1 fun r39 => lt z37.2 fun S38 =>
  if ¬ r39 = 0 then
  (Option.bind (f_X11_livesOf F S38 p0 p1) fun z42 => lt z42.1 fun r44 => lt z42.2 fun S43 =>
  Option.bind (f_X11_beginThought F S43 p0) fun S47 =>
  f_X11_goneAfter_L31 F F S47 p0 p1 p2 r44 0)
  else
  (some (0, S38))
def f_X11_eventCount (F : Nat) (S0 : St) (p0 : Nat) : Option (Int32 × St) :=
  lt (ui S0 1000 p0 0) fun S1 =>
  Option.bind (sr S1 1001 p0) fun j2 =>
  cki 9 (ln S1 j2) <|
  some (ai S1 j2 (Int32.toNatClampNeg 9), S1)
def f_X11_event (F : Nat) (S0 : St) (p0 : Nat) (p1 : Int32) (p2 : Int32) : Option (Int32 × St) :=
  Option.bind (sr S0 1001 p0) fun j1 =>
  cki 9 (ln S0 j1) <|
  Option.bind (f_X11_in F S0 p1.toInt64 ((0 : Int64)) (((ai S0 j1 (Int32.toNatClampNeg 9)) - 1).toInt64)) fun z3 => lt z3.1 fun r5 => lt z3.2 fun S4 =>
  Option.bind (f_X11_in F S4 p2.toInt64 ((0 : Int64)) (((2) : Int64))) fun z7 => lt z7.1 fun r9 => lt z7.2 fun S8 =>
  Option.bind (f_X11_passes2 F S8 p0 r5 r9) fun z11 => lt z11.1 fun r13 => lt z11.2 fun S12 =>
  if r13 = 0 then
  (some (0, S12))
  else
  (Option.bind (sr S12 1001 p0) fun j16 =>
  cki ((6211 + (3 * p1)) + p2) (ln S12 j16) <|
  some (ai S12 j16 (Int32.toNatClampNeg ((6211 + (3 * p1)) + p2)), S12))
def f_X11_eventsOf_L57 (F : Nat) (k22 : St → Nat → Int32 → Int32 → Int32 → Option (Int32 × St)) (S0 : St) (v0 : Nat) (v1 : Int32) (v3 : Int32) (s0 : Int32) (s1 : Int32) : Option (Int32 × St) :=
  lt (s1 + s0) fun x1 =>
  lt (v3 + 1) fun x2 =>
  k22 S0 v0 v1 x1 x2
def f_X11_eventsOf_L22 (F : Nat) : Nat → St → Nat → Int32 → Int32 → Int32 → Option (Int32 × St)
  | 0, _, _, _, _, _ => none
  | fu + 1, S0, v0, v1, v2, v3 =>
    Option.bind (sr S0 1001 v0) fun j5 =>
    cki 9 (ln S0 j5) <|
    if (ai S0 j5 (Int32.toNatClampNeg 9)) ≤ v3 then
    (some (v2, S0))
    else
    (Option.bind (sr S0 1001 v0) fun j8 =>
    cki ((6211 + (3 * v3)) + 1) (ln S0 j8) <|
    if ¬ (ai S0 j8 (Int32.toNatClampNeg ((6211 + (3 * v3)) + 1))) = v1 then
    (f_X11_eventsOf_L57 F (fun a0 a1 a2 a3 a4 => f_X11_eventsOf_L22 F fu a0 a1 a2 a3 a4) S0 v0 v1 v3 0 v2)
    else
    (f_X11_eventsOf_L57 F (fun a0 a1 a2 a3 a4 => f_X11_eventsOf_L22 F fu a0 a1 a2 a3 a4) S0 v0 v1 v3 1 v2))
def f_X11_eventsOf (F : Nat) (S0 : St) (p0 : Nat) (p1 : Int32) : Option (Int32 × St) :=
  Option.bind (f_X11_in F S0 p1.toInt64 ((1 : Int64)) (((10) : Int64))) fun z17 => lt z17.1 fun r19 => lt z17.2 fun S18 =>
  Option.bind (f_X11_passes F S18 p0 r19) fun z21 => lt z21.1 fun r23 => lt z21.2 fun S22 =>
  if ¬ r23 = 0 then
  (f_X11_eventsOf_L22 F F S22 p0 p1 0 0)
  else
  (some (0, S22))
def f_X11_undo_L79 (F : Nat) : Nat → St → Nat → Int32 → Int32 → Option (Int32 × St)
  | 0, _, _, _, _ => none
  | fu + 1, S0, v0, v1, v2 =>
    Option.bind (sr S0 1001 v0) fun j1 =>
    cki 8 (ln S0 j1) <|
    if (200 * (ai S0 j1 (Int32.toNatClampNeg 8))) ≤ v2 then
    (some (si S0 1026 v0, S0))
    else
    (Option.bind (sr S0 1003 v0) fun j4 =>
    Option.bind (sr S0 1025 v0) fun j5 =>
    cki ((96000 * v1) + v2) (ln S0 j5) <|
    cki v2 (ln S0 j4) <|
    lt (uai S0 j4 (Int32.toNatClampNeg v2) (Int32.toInt8 (ai S0 j5 (Int32.toNatClampNeg ((96000 * v1) + v2)))).toInt32) fun S8 =>
    lt (v2 + 1) fun x9 =>
    (fun a0 a1 a2 a3 => f_X11_undo_L79 F fu a0 a1 a2 a3) S8 v0 v1 x9)
def f_X11_undo_L46 (F : Nat) : Nat → St → Nat → Int32 → Int32 → Option (Int32 × St)
  | 0, _, _, _, _ => none
  | fu + 1, S0, v0, v1, v2 =>
    if 6391 ≤ v2 then
    (f_X11_undo_L79 F F S0 v0 v1 0)
    else
    (Option.bind (sr S0 1001 v0) fun j20 =>
    Option.bind (sr S0 1024 v0) fun j21 =>
    cki ((6391 * v1) + v2) (ln S0 j21) <|
    cki v2 (ln S0 j20) <|
    lt (uai S0 j20 (Int32.toNatClampNeg v2) (ai S0 j21 (Int32.toNatClampNeg ((6391 * v1) + v2)))) fun S24 =>
    lt (v2 + 1) fun x25 =>
    (fun a0 a1 a2 a3 => f_X11_undo_L46 F fu a0 a1 a2 a3) S24 v0 v1 x25)
def f_X11_undo_L13 (F : Nat) (S0 : St) (v0 : Nat) (s0 : Int32) (s1 : Nat) : Option (Int32 × St) :=
  Option.bind (f_X11_passes F S0 s1 s0) fun z33 => lt z33.1 fun r35 => lt z33.2 fun S34 =>
  if ¬ r35 = 0 then
  (lt (ui S34 1026 v0 ((si S34 1026 v0) - 1)) fun S38 =>
  lt (((si S38 1027 v0) + (si S38 1026 v0)) - ((si S38 1027 v0) + (si S38 1026 v0)) / 6 * 6) fun x39 =>
  f_X11_undo_L46 F F S38 v0 x39 0)
  else
  (some (0, S34))
def f_X11_undo (F : Nat) (S0 : St) (p0 : Nat) : Option (Int32 × St) :=
  if (si S0 1026 p0) ≤ 0 then
  (f_X11_undo_L13 F S0 p0 0 p0)
  else
  (f_X11_undo_L13 F S0 p0 1 p0)
def f_X11_undoCount (F : Nat) (S0 : St) (p0 : Nat) : Option (Int32 × St) :=
  lt (ui S0 1000 p0 0) fun S1 =>
  some (si S1 1026 p0, S1)
def f_X11_write (F : Nat) (S0 : St) (p0 : Nat) (p1 : Int32) : Option (St) :=
  Option.bind (sr S0 1028 p0) fun j1 =>
  cki (si S0 1029 p0) (ln S0 j1) <|
  lt (uai S0 j1 (Int32.toNatClampNeg (si S0 1029 p0)) (Int32.toInt8 p1.toInt8.toInt32).toInt32) fun S3 =>
  lt (ui S3 1029 p0 ((si S3 1029 p0) + 1)) fun S4 =>
  some S4
def f_X11_writeNumber_L20 (F : Nat) : Nat → St → Nat → Int32 → Int32 → Option (St)
  | 0, _, _, _, _ => none
  | fu + 1, S0, v0, v1, v3 =>
    if v3 ≤ 0 then
    (some S0)
    else
    (ck (¬ v3 = 0) <|
    Option.bind (f_X11_write F S0 v0 (48 + ((v1 / v3) - (v1 / v3) / 10 * 10))) fun S4 =>
    lt (v3 / 10) fun x7 =>
    (fun a0 a1 a2 a3 => f_X11_writeNumber_L20 F fu a0 a1 a2 a3) S4 v0 v1 x7)
def f_X11_writeNumber_L2 (F : Nat) : Nat → St → Nat → Int32 → Int32 → Option (St)
  | 0, _, _, _, _ => none
  | fu + 1, S0, v0, v1, v2 =>
    ck (¬ v2 = 0) <|
    if (v1 / v2) < 10 then
    (f_X11_writeNumber_L20 F F S0 v0 v1 v2)
    else
    (lt (v2 * 10) fun x17 =>
    (fun a0 a1 a2 a3 => f_X11_writeNumber_L2 F fu a0 a1 a2 a3) S0 v0 v1 x17)
def f_X11_writeNumber (F : Nat) (S0 : St) (p0 : Nat) (p1 : Int32) : Option (St) :=
  f_X11_writeNumber_L2 F F S0 p0 p1 1
def f_X11_writeClass_L2 (F : Nat) : Nat → St → Nat → Int32 → Int32 → Option (St)
  | 0, _, _, _, _ => none
  | fu + 1, S0, v0, v1, v2 =>
    if 6 ≤ v2 then
    (some S0)
    else
    (Option.bind (f_X11_classValue F S0 v0 v1 (3 + v2)) fun z2 => lt z2.1 fun r4 => lt z2.2 fun S3 =>
    if r4 = 0 then
    (some S3)
    else
    (Option.bind (f_X11_classValue F S3 v0 v1 (3 + v2)) fun z7 => lt z7.1 fun r9 => lt z7.2 fun S8 =>
    Option.bind (f_X11_write F S8 v0 r9) fun S12 =>
    lt (v2 + 1) fun x15 =>
    (fun a0 a1 a2 a3 => f_X11_writeClass_L2 F fu a0 a1 a2 a3) S12 v0 v1 x15))
def f_X11_writeClass (F : Nat) (S0 : St) (p0 : Nat) (p1 : Int32) : Option (St) :=
  f_X11_writeClass_L2 F F S0 p0 p1 0
def f_X11_writeMailbox_L99 (F : Nat) (k21 : St → Nat → Int32 → Int32 → Option (Int32 × St)) (S0 : St) (v0 : Nat) (v1 : Int32) (v2 : Int32) : Option (Int32 × St) :=
  lt (v2 + 1) fun x1 =>
  k21 S0 v0 v1 x1
def f_X11_writeMailbox_L21 (F : Nat) : Nat → St → Nat → Int32 → Int32 → Option (Int32 × St)
  | 0, _, _, _, _ => none
  | fu + 1, S0, v0, v1, v2 =>
    Option.bind (sr S0 1001 v0) fun j3 =>
    cki 7 (ln S0 j3) <|
    if (ai S0 j3 (Int32.toNatClampNeg 7)) ≤ v2 then
    (some (si S0 1029 v0, S0))
    else
    (Option.bind (f_X11_isLive F S0 v0 v2 v1) fun z6 => lt z6.1 fun r8 => lt z6.2 fun S7 =>
    if ¬ r8 = 0 then
    (Option.bind (f_X11_writeNumber F S7 v0 v2) fun S12 =>
    Option.bind (f_X11_write F S12 v0 ((58 : Int32))) fun S16 =>
    Option.bind (sr S16 1001 v0) fun j19 =>
    Option.bind (f_X11_refAt F S16 v2 v1) fun z20 => lt z20.1 fun r22 => lt z20.2 fun S21 =>
    cki (r22 + 1) (ln S21 j19) <|
    Option.bind (f_X11_writeClass F S21 v0 (ai S21 j19 (Int32.toNatClampNeg (r22 + 1)))) fun S26 =>
    Option.bind (f_X11_write F S26 v0 ((47 : Int32))) fun S30 =>
    Option.bind (sr S30 1001 v0) fun j33 =>
    Option.bind (f_X11_refAt F S30 v2 v1) fun z34 => lt z34.1 fun r36 => lt z34.2 fun S35 =>
    cki (r36 + 2) (ln S35 j33) <|
    Option.bind (f_X11_writeNumber F S35 v0 (ai S35 j33 (Int32.toNatClampNeg (r36 + 2)))) fun S40 =>
    Option.bind (f_X11_write F S40 v0 ((10 : Int32))) fun S44 =>
    f_X11_writeMailbox_L99 F (fun a0 a1 a2 a3 => f_X11_writeMailbox_L21 F fu a0 a1 a2 a3) S44 v0 v1 v2)
    else
    (f_X11_writeMailbox_L99 F (fun a0 a1 a2 a3 => f_X11_writeMailbox_L21 F fu a0 a1 a2 a3) S7 v0 v1 v2))
def f_X11_writeMailbox (F : Nat) (S0 : St) (p0 : Nat) (p1 : Int32) : Option (Int32 × St) :=
  Option.bind (f_X11_isUser F S0 p0 p1) fun z91 => lt z91.1 fun r93 => lt z91.2 fun S92 =>
  Option.bind (f_X11_passes F S92 p0 r93) fun z95 => lt z95.1 fun r97 => lt z95.2 fun S96 =>
  if ¬ r97 = 0 then
  (lt (ui S96 1029 p0 0) fun S100 =>
  f_X11_writeMailbox_L21 F F S100 p0 p1 0)
  else
  (some (0, S96))
def f_X11_outputByte (F : Nat) (S0 : St) (p0 : Nat) (p1 : Int32) : Option (Int32 × St) :=
  Option.bind (f_X11_in F S0 p1.toInt64 ((0 : Int64)) (((si S0 1029 p0) - 1).toInt64)) fun z1 => lt z1.1 fun r3 => lt z1.2 fun S2 =>
  Option.bind (f_X11_passes F S2 p0 r3) fun z5 => lt z5.1 fun r7 => lt z5.2 fun S6 =>
  if r7 = 0 then
  (some (0, S6))
  else
  (Option.bind (sr S6 1028 p0) fun j10 =>
  cki p1 (ln S6 j10) <|
  some (ai S6 j10 (Int32.toNatClampNeg p1), S6))
def f_L_append (F : Nat) (S0 : St) (p0 : Nat) (p1 : Int32) (p2 : Int32) (p3 : Int32) (p4 : Int32) (p5 : Int32) (p6 : Nat) : Option (Int32 × St) :=
  Option.bind (f_X10_append F S0 p0 p1 p2 p3 p4 p5) fun z1 => lt z1.2 fun S2 =>
  sm z1.1 (fun x5 =>
  if x5 = 1 then
  (some (1, S2))
  else
  (none)) (fun r3 =>
  cki 0 (ln S2 p6) <|
  lt (ual S2 p6 (Int32.toNatClampNeg 0) r3.toInt64) fun S11 =>
  some (0, S11))
def f_L_truncate (F : Nat) (S0 : St) (p0 : Nat) (p1 : Int32) : Option (Int32 × St) :=
  Option.bind (f_X10_truncate F S0 p0 p1) fun z1 => lt z1.2 fun S2 =>
  sm z1.1 (fun x5 =>
  if x5 = 2 then
  (some (1, S2))
  else
  (none)) (fun r3 =>
  some (0, S2))
def f_L_find (F : Nat) (S0 : St) (p0 : Nat) (p1 : Int32) (p2 : Nat) : Option (Int32 × St) :=
  Option.bind (f_X10_find F S0 p0 p1) fun z1 => lt z1.2 fun S2 =>
  sm z1.1 (fun x5 =>
  if x5 = 2 then
  (some (1, S2))
  else
  (none)) (fun r3 =>
  cki 0 (ln S2 p2) <|
  lt (ual S2 p2 (Int32.toNatClampNeg 0) r3.toInt64) fun S11 =>
  some (0, S11))
def f_L_count (F : Nat) (S0 : St) (p0 : Nat) (p1 : Int32) (p2 : Nat) : Option (Int32 × St) :=
  Option.bind (f_X10_count F S0 p0 p1) fun z1 => lt z1.2 fun S2 =>
  sm z1.1 (fun x5 =>
  if x5 = 2 then
  (some (1, S2))
  else
  (none)) (fun r3 =>
  cki 0 (ln S2 p2) <|
  lt (ual S2 p2 (Int32.toNatClampNeg 0) r3.toInt64) fun S11 =>
  some (0, S11))
def f_L_members (F : Nat) (S0 : St) (p0 : Nat) (p1 : Int32) (p2 : Nat) : Option (Int32 × St) :=
  Option.bind (f_X10_members F S0 p0 p1) fun z1 => lt z1.2 fun S2 =>
  sm z1.1 (fun x5 =>
  if x5 = 4 then
  (some (1, S2))
  else
  (none)) (fun r3 =>
  cki 0 (ln S2 p2) <|
  lt (ual S2 p2 (Int32.toNatClampNeg 0) r3.toInt64) fun S11 =>
  some (0, S11))
def f_L_retention (F : Nat) (S0 : St) (p0 : Nat) (p1 : Int32) (p2 : Int32) (p3 : Nat) : Option (Int32 × St) :=
  Option.bind (f_X10_retention F S0 p0 p1 p2) fun z1 => lt z1.2 fun S2 =>
  sm z1.1 (fun x5 =>
  if x5 = 4 then
  (some (1, S2))
  else
  (if x5 = 2 then
  (some (2, S2))
  else
  (none))) (fun r3 =>
  cki 0 (ln S2 p3) <|
  lt (ual S2 p3 (Int32.toNatClampNeg 0) r3.toInt64) fun S12 =>
  some (0, S12))
def f_L_ladderDays (F : Nat) (S0 : St) (p0 : Nat) (p1 : Int32) (p2 : Nat) : Option (Int32 × St) :=
  Option.bind (f_X10_ladderDays F S0 p0 p1) fun z1 => lt z1.2 fun S2 =>
  sm z1.1 (fun x5 =>
  if x5 = 4 then
  (some (1, S2))
  else
  (none)) (fun r3 =>
  cki 0 (ln S2 p2) <|
  lt (ual S2 p2 (Int32.toNatClampNeg 0) r3.toInt64) fun S11 =>
  some (0, S11))
def f_L_deliver (F : Nat) (S0 : St) (n : Nat) (p0 : Nat) (p1 : Int32) (p2 : Int32) (p3 : Int32) (p4 : Nat) : Option (Int32 × St × Nat) :=
  Option.bind (f_X10_deliver F S0 n p0 p1 p2 p3) fun z1 => lt z1.2.1 fun S2 => lt z1.2.2 fun n5 =>
  sm z1.1 (fun x6 =>
  if x6 = 4 then
  (some (1, S2, n5))
  else
  (if x6 = 2 then
  (some (2, S2, n5))
  else
  (if x6 = 1 then
  (some (3, S2, n5))
  else
  (none)))) (fun r3 =>
  cki 0 (ln S2 p4) <|
  lt (ual S2 p4 (Int32.toNatClampNeg 0) r3.toInt64) fun S14 =>
  some (0, S14, n5))
def f_L_message (F : Nat) (S0 : St) (p0 : Nat) (p1 : Int32) (p2 : Int32) (p3 : Nat) : Option (Int32 × St) :=
  Option.bind (f_X10_message F S0 p0 p1 p2) fun z1 => lt z1.2 fun S2 =>
  sm z1.1 (fun x5 =>
  if x5 = 4 then
  (some (1, S2))
  else
  (if x5 = 2 then
  (some (2, S2))
  else
  (none))) (fun r3 =>
  cki 0 (ln S2 p3) <|
  lt (ual S2 p3 (Int32.toNatClampNeg 0) r3.toInt64) fun S12 =>
  some (0, S12))
def f_L_partOf (F : Nat) (S0 : St) (p0 : Nat) (p1 : Int32) (p2 : Int32) (p3 : Nat) : Option (Int32 × St) :=
  Option.bind (f_X10_partOf F S0 p0 p1 p2) fun z1 => lt z1.2 fun S2 =>
  sm z1.1 (fun x5 =>
  if x5 = 4 then
  (some (1, S2))
  else
  (none)) (fun r3 =>
  cki 0 (ln S2 p3) <|
  lt (ual S2 p3 (Int32.toNatClampNeg 0) r3.toInt64) fun S11 =>
  some (0, S11))
def f_L_readers (F : Nat) (S0 : St) (p0 : Nat) (p1 : Int32) (p2 : Nat) : Option (Int32 × St) :=
  Option.bind (f_X10_readers F S0 p0 p1) fun z1 => lt z1.2 fun S2 =>
  sm z1.1 (fun x5 =>
  if x5 = 4 then
  (some (1, S2))
  else
  (none)) (fun r3 =>
  cki 0 (ln S2 p2) <|
  lt (ual S2 p2 (Int32.toNatClampNeg 0) r3.toInt64) fun S11 =>
  some (0, S11))
def f_L_hidden (F : Nat) (S0 : St) (p0 : Nat) (p1 : Int32) (p2 : Nat) : Option (Int32 × St) :=
  Option.bind (f_X10_hidden F S0 p0 p1) fun z1 => lt z1.2 fun S2 =>
  sm z1.1 (fun x5 =>
  if x5 = 4 then
  (some (1, S2))
  else
  (none)) (fun r3 =>
  cki 0 (ln S2 p2) <|
  lt (ual S2 p2 (Int32.toNatClampNeg 0) r3.toInt64) fun S11 =>
  some (0, S11))
def f_L_state (F : Nat) (S0 : St) (p0 : Nat) (p1 : Int32) (p2 : Int32) (p3 : Nat) : Option (Int32 × St) :=
  Option.bind (f_X10_state F S0 p0 p1 p2) fun z1 => lt z1.2 fun S2 =>
  sm z1.1 (fun x5 =>
  if x5 = 4 then
  (some (1, S2))
  else
  (none)) (fun r3 =>
  cki 0 (ln S2 p3) <|
  lt (ual S2 p3 (Int32.toNatClampNeg 0) r3.toInt64) fun S11 =>
  some (0, S11))
def f_L_classOf (F : Nat) (S0 : St) (p0 : Nat) (p1 : Int32) (p2 : Int32) (p3 : Nat) : Option (Int32 × St) :=
  Option.bind (f_X10_classOf F S0 p0 p1 p2) fun z1 => lt z1.2 fun S2 =>
  sm z1.1 (fun x5 =>
  if x5 = 4 then
  (some (1, S2))
  else
  (none)) (fun r3 =>
  cki 0 (ln S2 p3) <|
  lt (ual S2 p3 (Int32.toNatClampNeg 0) r3.toInt64) fun S11 =>
  some (0, S11))
def f_L_enteredOn (F : Nat) (S0 : St) (p0 : Nat) (p1 : Int32) (p2 : Int32) (p3 : Nat) : Option (Int32 × St) :=
  Option.bind (f_X10_enteredOn F S0 p0 p1 p2) fun z1 => lt z1.2 fun S2 =>
  sm z1.1 (fun x5 =>
  if x5 = 4 then
  (some (1, S2))
  else
  (none)) (fun r3 =>
  cki 0 (ln S2 p3) <|
  lt (ual S2 p3 (Int32.toNatClampNeg 0) r3.toInt64) fun S11 =>
  some (0, S11))
def f_L_expiresOn (F : Nat) (S0 : St) (p0 : Nat) (p1 : Int32) (p2 : Int32) (p3 : Nat) : Option (Int32 × St) :=
  Option.bind (f_X10_expiresOn F S0 p0 p1 p2) fun z1 => lt z1.2 fun S2 =>
  sm z1.1 (fun x5 =>
  if x5 = 4 then
  (some (1, S2))
  else
  (none)) (fun r3 =>
  cki 0 (ln S2 p3) <|
  lt (ual S2 p3 (Int32.toNatClampNeg 0) r3.toInt64) fun S11 =>
  some (0, S11))
def f_L_isKept_L16 (F : Nat) (S0 : St) (s0 : Int64) (s1 : Int32) (s2 : Nat) : Option (Int32 × St) :=
  cki s1 (ln S0 s2) <|
  lt (ual S0 s2 (Int32.toNatClampNeg s1) s0) fun S2 =>
  some (0, S2)
def f_L_isKept (F : Nat) (S0 : St) (p0 : Nat) (p1 : Int32) (p2 : Int32) (p3 : Nat) : Option (Int32 × St) :=
  Option.bind (f_X10_isKept F S0 p0 p1 p2) fun z5 => lt z5.2 fun S6 =>
  sm z5.1 (fun x9 =>
  if x9 = 4 then
  (some (1, S6))
  else
  (none)) (fun r7 =>
  if r7 = 0 then
  (f_L_isKept_L16 F S6 0 0 p3)
  else
  (f_L_isKept_L16 F S6 1 0 p3))
def f_L_holdsOn (F : Nat) (S0 : St) (p0 : Nat) (p1 : Int32) (p2 : Int32) (p3 : Nat) : Option (Int32 × St) :=
  Option.bind (f_X10_holdsOn F S0 p0 p1 p2) fun z1 => lt z1.2 fun S2 =>
  sm z1.1 (fun x5 =>
  if x5 = 4 then
  (some (1, S2))
  else
  (none)) (fun r3 =>
  cki 0 (ln S2 p3) <|
  lt (ual S2 p3 (Int32.toNatClampNeg 0) r3.toInt64) fun S11 =>
  some (0, S11))
def f_L_storedPart (F : Nat) (S0 : St) (p0 : Nat) (p1 : Int32) (p2 : Nat) : Option (Int32 × St) :=
  Option.bind (f_X10_storedPart F S0 p0 p1) fun z1 => lt z1.2 fun S2 =>
  sm z1.1 (fun x5 =>
  if x5 = 4 then
  (some (1, S2))
  else
  (none)) (fun r3 =>
  cki 0 (ln S2 p2) <|
  lt (ual S2 p2 (Int32.toNatClampNeg 0) r3.toInt64) fun S11 =>
  some (0, S11))
def f_L_part (F : Nat) (S0 : St) (p0 : Nat) (p1 : Int32) (p2 : Int32) (p3 : Nat) : Option (Int32 × St) :=
  Option.bind (f_X10_part F S0 p0 p1 p2) fun z1 => lt z1.2 fun S2 =>
  sm z1.1 (fun x5 =>
  if x5 = 4 then
  (some (1, S2))
  else
  (if x5 = 2 then
  (some (2, S2))
  else
  (none))) (fun r3 =>
  cki 0 (ln S2 p3) <|
  lt (ual S2 p3 (Int32.toNatClampNeg 0) r3.toInt64) fun S12 =>
  some (0, S12))
def f_L_partByte (F : Nat) (S0 : St) (p0 : Nat) (p1 : Int32) (p2 : Int32) (p3 : Nat) : Option (Int32 × St) :=
  Option.bind (f_X10_partByte F S0 p0 p1 p2) fun z1 => lt z1.2 fun S2 =>
  sm z1.1 (fun x5 =>
  if x5 = 4 then
  (some (1, S2))
  else
  (if x5 = 3 then
  (some (2, S2))
  else
  (none))) (fun r3 =>
  cki 0 (ln S2 p3) <|
  lt (ual S2 p3 (Int32.toNatClampNeg 0) r3.toInt64) fun S12 =>
  some (0, S12))
def f_L_digest (F : Nat) (S0 : St) (p0 : Nat) (p1 : Int32) (p2 : Nat) : Option (Int32 × St) :=
  Option.bind (f_X10_digest F S0 p0 p1) fun z1 => lt z1.2 fun S2 =>
  sm z1.1 (fun x5 =>
  if x5 = 4 then
  (some (1, S2))
  else
  (none)) (fun r3 =>
  cki 0 (ln S2 p2) <|
  lt (ual S2 p2 (Int32.toNatClampNeg 0) r3) fun S11 =>
  some (0, S11))
def f_L_usage (F : Nat) (S0 : St) (p0 : Nat) (p1 : Int32) (p2 : Nat) : Option (Int32 × St) :=
  Option.bind (f_X10_usage F S0 p0 p1) fun z1 => lt z1.2 fun S2 =>
  sm z1.1 (fun x5 =>
  if x5 = 4 then
  (some (1, S2))
  else
  (none)) (fun r3 =>
  cki 0 (ln S2 p2) <|
  lt (ual S2 p2 (Int32.toNatClampNeg 0) r3.toInt64) fun S11 =>
  some (0, S11))
def f_L_quota (F : Nat) (S0 : St) (p0 : Nat) (p1 : Int32) (p2 : Nat) : Option (Int32 × St) :=
  Option.bind (f_X10_quota F S0 p0 p1) fun z1 => lt z1.2 fun S2 =>
  sm z1.1 (fun x5 =>
  if x5 = 4 then
  (some (1, S2))
  else
  (none)) (fun r3 =>
  cki 0 (ln S2 p2) <|
  lt (ual S2 p2 (Int32.toNatClampNeg 0) r3.toInt64) fun S11 =>
  some (0, S11))
def f_L_fairShare (F : Nat) (S0 : St) (p0 : Nat) (p1 : Int32) (p2 : Nat) : Option (Int32 × St) :=
  Option.bind (f_X10_fairShare F S0 p0 p1) fun z1 => lt z1.2 fun S2 =>
  sm z1.1 (fun x5 =>
  if x5 = 4 then
  (some (1, S2))
  else
  (none)) (fun r3 =>
  cki 0 (ln S2 p2) <|
  lt (ual S2 p2 (Int32.toNatClampNeg 0) (UInt64.toInt64 r3)) fun S11 =>
  some (0, S11))
def f_L_inClass (F : Nat) (S0 : St) (p0 : Nat) (p1 : Int32) (p2 : Int32) (p3 : Nat) : Option (Int32 × St) :=
  Option.bind (f_X10_inClass F S0 p0 p1 p2) fun z1 => lt z1.2 fun S2 =>
  sm z1.1 (fun x5 =>
  if x5 = 4 then
  (some (1, S2))
  else
  (none)) (fun r3 =>
  cki 0 (ln S2 p3) <|
  lt (ual S2 p3 (Int32.toNatClampNeg 0) r3.toInt64) fun S11 =>
  some (0, S11))
def f_L_matches (F : Nat) (S0 : St) (p0 : Nat) (p1 : Int32) (p2 : Nat) : Option (Int32 × St) :=
  Option.bind (f_X10_matches F S0 p0 p1) fun z1 => lt z1.2 fun S2 =>
  sm z1.1 (fun x5 =>
  if x5 = 4 then
  (some (1, S2))
  else
  (if x5 = 2 then
  (some (2, S2))
  else
  (none))) (fun r3 =>
  cki 0 (ln S2 p2) <|
  lt (ual S2 p2 (Int32.toNatClampNeg 0) r3.toInt64) fun S12 =>
  some (0, S12))
def f_L_commonBytes (F : Nat) (S0 : St) (p0 : Nat) (p1 : Int32) (p2 : Int32) (p3 : Nat) : Option (Int32 × St) :=
  Option.bind (f_X10_commonBytes F S0 p0 p1 p2) fun z1 => lt z1.2 fun S2 =>
  sm z1.1 (fun x5 =>
  if x5 = 4 then
  (some (1, S2))
  else
  (none)) (fun r3 =>
  cki 0 (ln S2 p3) <|
  lt (ual S2 p3 (Int32.toNatClampNeg 0) r3.toInt64) fun S11 =>
  some (0, S11))
def f_L_file (F : Nat) (S0 : St) (p0 : Nat) (p1 : Int32) (p2 : Int32) (p3 : Int32) (p4 : Nat) : Option (Int32 × St) :=
  Option.bind (f_X10_file F S0 p0 p1 p2 p3) fun z1 => lt z1.2 fun S2 =>
  sm z1.1 (fun x5 =>
  if x5 = 4 then
  (some (1, S2))
  else
  (if x5 = 1 then
  (some (2, S2))
  else
  (none))) (fun r3 =>
  cki 0 (ln S2 p4) <|
  lt (ual S2 p4 (Int32.toNatClampNeg 0) r3.toInt64) fun S12 =>
  some (0, S12))
def f_L_delete (F : Nat) (S0 : St) (p0 : Nat) (p1 : Int32) (p2 : Int32) (p3 : Nat) : Option (Int32 × St) :=
  Option.bind (f_X10_delete F S0 p0 p1 p2) fun z1 => lt z1.2 fun S2 =>
  sm z1.1 (fun x5 =>
  if x5 = 4 then
  (some (1, S2))
  else
  (if x5 = 1 then
  (some (2, S2))
  else
  (none))) (fun r3 =>
  cki 0 (ln S2 p3) <|
  lt (ual S2 p3 (Int32.toNatClampNeg 0) r3.toInt64) fun S12 =>
  some (0, S12))
def f_L_recover (F : Nat) (S0 : St) (p0 : Nat) (p1 : Int32) (p2 : Int32) (p3 : Nat) : Option (Int32 × St) :=
  Option.bind (f_X10_recover F S0 p0 p1 p2) fun z1 => lt z1.2 fun S2 =>
  sm z1.1 (fun x5 =>
  if x5 = 4 then
  (some (1, S2))
  else
  (if x5 = 1 then
  (some (2, S2))
  else
  (none))) (fun r3 =>
  cki 0 (ln S2 p3) <|
  lt (ual S2 p3 (Int32.toNatClampNeg 0) r3.toInt64) fun S12 =>
  some (0, S12))
def f_L_isActive_L15 (F : Nat) (S0 : St) (s0 : Int64) (s1 : Int32) (s2 : Nat) : Option (Int32 × St) :=
  cki s1 (ln S0 s2) <|
  lt (ual S0 s2 (Int32.toNatClampNeg s1) s0) fun S2 =>
  some (0, S2)
def f_L_isActive (F : Nat) (S0 : St) (p0 : Nat) (p1 : Int32) (p2 : Nat) : Option (Int32 × St) :=
  Option.bind (f_X10_isActive F S0 p0 p1) fun z5 => lt z5.2 fun S6 =>
  sm z5.1 (fun x9 =>
  if x9 = 4 then
  (some (1, S6))
  else
  (none)) (fun r7 =>
  if r7 = 0 then
  (f_L_isActive_L15 F S6 0 0 p2)
  else
  (f_L_isActive_L15 F S6 1 0 p2))
def f_L_setHold (F : Nat) (S0 : St) (p0 : Nat) (p1 : Int32) (p2 : Int32) (p3 : Nat) : Option (Int32 × St) :=
  Option.bind (f_X10_setHold F S0 p0 p1 p2) fun z1 => lt z1.2 fun S2 =>
  sm z1.1 (fun x5 =>
  if x5 = 4 then
  (some (1, S2))
  else
  (none)) (fun r3 =>
  cki 0 (ln S2 p3) <|
  lt (ual S2 p3 (Int32.toNatClampNeg 0) r3.toInt64) fun S11 =>
  some (0, S11))
def f_L_heldOnlyBy (F : Nat) (S0 : St) (p0 : Nat) (p1 : Int32) (p2 : Nat) : Option (Int32 × St) :=
  Option.bind (f_X10_heldOnlyBy F S0 p0 p1) fun z1 => lt z1.2 fun S2 =>
  sm z1.1 (fun x5 =>
  if x5 = 4 then
  (some (1, S2))
  else
  (none)) (fun r3 =>
  cki 0 (ln S2 p2) <|
  lt (ual S2 p2 (Int32.toNatClampNeg 0) r3.toInt64) fun S11 =>
  some (0, S11))
def f_L_setQuota (F : Nat) (S0 : St) (p0 : Nat) (p1 : Int32) (p2 : Int32) (p3 : Nat) : Option (Int32 × St) :=
  Option.bind (f_X10_setQuota F S0 p0 p1 p2) fun z1 => lt z1.2 fun S2 =>
  sm z1.1 (fun x5 =>
  if x5 = 4 then
  (some (1, S2))
  else
  (if x5 = 2 then
  (some (2, S2))
  else
  (none))) (fun r3 =>
  cki 0 (ln S2 p3) <|
  lt (ual S2 p3 (Int32.toNatClampNeg 0) r3.toInt64) fun S12 =>
  some (0, S12))
def f_L_advance (F : Nat) (S0 : St) (p0 : Nat) (p1 : Int32) (p2 : Nat) : Option (Int32 × St) :=
  Option.bind (f_X10_advance F S0 p0 p1) fun z1 => lt z1.2 fun S2 =>
  sm z1.1 (fun x5 =>
  if x5 = 2 then
  (some (1, S2))
  else
  (if x5 = 1 then
  (some (2, S2))
  else
  (none))) (fun r3 =>
  cki 0 (ln S2 p2) <|
  lt (ual S2 p2 (Int32.toNatClampNeg 0) r3.toInt64) fun S12 =>
  some (0, S12))
def f_L_removedOn (F : Nat) (S0 : St) (p0 : Nat) (p1 : Int32) (p2 : Nat) : Option (Int32 × St) :=
  Option.bind (f_X10_removedOn F S0 p0 p1) fun z1 => lt z1.2 fun S2 =>
  sm z1.1 (fun x5 =>
  if x5 = 4 then
  (some (1, S2))
  else
  (none)) (fun r3 =>
  cki 0 (ln S2 p2) <|
  lt (ual S2 p2 (Int32.toNatClampNeg 0) r3.toInt64) fun S11 =>
  some (0, S11))
def f_L_bytesAfter (F : Nat) (S0 : St) (p0 : Nat) (p1 : Int32) (p2 : Nat) : Option (Int32 × St) :=
  Option.bind (f_X10_bytesAfter F S0 p0 p1) fun z1 => lt z1.2 fun S2 =>
  sm z1.1 (fun x5 =>
  if x5 = 2 then
  (some (1, S2))
  else
  (none)) (fun r3 =>
  cki 0 (ln S2 p2) <|
  lt (ual S2 p2 (Int32.toNatClampNeg 0) r3.toInt64) fun S11 =>
  some (0, S11))
def f_L_goneAfter (F : Nat) (S0 : St) (p0 : Nat) (p1 : Int32) (p2 : Int32) (p3 : Nat) : Option (Int32 × St) :=
  Option.bind (f_X10_goneAfter F S0 p0 p1 p2) fun z1 => lt z1.2 fun S2 =>
  sm z1.1 (fun x5 =>
  if x5 = 4 then
  (some (1, S2))
  else
  (if x5 = 2 then
  (some (2, S2))
  else
  (none))) (fun r3 =>
  cki 0 (ln S2 p3) <|
  lt (ual S2 p3 (Int32.toNatClampNeg 0) r3.toInt64) fun S12 =>
  some (0, S12))
def f_L_event (F : Nat) (S0 : St) (p0 : Nat) (p1 : Int32) (p2 : Int32) (p3 : Nat) : Option (Int32 × St) :=
  Option.bind (f_X10_event F S0 p0 p1 p2) fun z1 => lt z1.2 fun S2 =>
  sm z1.1 (fun x5 =>
  if x5 = 4 then
  (some (1, S2))
  else
  (if x5 = 2 then
  (some (2, S2))
  else
  (none))) (fun r3 =>
  cki 0 (ln S2 p3) <|
  lt (ual S2 p3 (Int32.toNatClampNeg 0) r3.toInt64) fun S12 =>
  some (0, S12))
def f_L_eventsOf (F : Nat) (S0 : St) (p0 : Nat) (p1 : Int32) (p2 : Nat) : Option (Int32 × St) :=
  Option.bind (f_X10_eventsOf F S0 p0 p1) fun z1 => lt z1.2 fun S2 =>
  sm z1.1 (fun x5 =>
  if x5 = 2 then
  (some (1, S2))
  else
  (none)) (fun r3 =>
  cki 0 (ln S2 p2) <|
  lt (ual S2 p2 (Int32.toNatClampNeg 0) r3.toInt64) fun S11 =>
  some (0, S11))
def f_L_undo (F : Nat) (S0 : St) (p0 : Nat) (p1 : Nat) : Option (Int32 × St) :=
  Option.bind (f_X10_undo F S0 p0) fun z1 => lt z1.2 fun S2 =>
  sm z1.1 (fun x5 =>
  if x5 = 1 then
  (some (1, S2))
  else
  (none)) (fun r3 =>
  cki 0 (ln S2 p1) <|
  lt (ual S2 p1 (Int32.toNatClampNeg 0) r3.toInt64) fun S11 =>
  some (0, S11))
def f_L_writeMailbox (F : Nat) (S0 : St) (p0 : Nat) (p1 : Int32) (p2 : Nat) : Option (Int32 × St) :=
  Option.bind (f_X10_writeMailbox F S0 p0 p1) fun z1 => lt z1.2 fun S2 =>
  sm z1.1 (fun x5 =>
  if x5 = 4 then
  (some (1, S2))
  else
  (none)) (fun r3 =>
  cki 0 (ln S2 p2) <|
  lt (ual S2 p2 (Int32.toNatClampNeg 0) r3.toInt64) fun S11 =>
  some (0, S11))
def f_L_outputByte (F : Nat) (S0 : St) (p0 : Nat) (p1 : Int32) (p2 : Nat) : Option (Int32 × St) :=
  Option.bind (f_X10_outputByte F S0 p0 p1) fun z1 => lt z1.2 fun S2 =>
  sm z1.1 (fun x5 =>
  if x5 = 3 then
  (some (1, S2))
  else
  (none)) (fun r3 =>
  cki 0 (ln S2 p2) <|
  lt (ual S2 p2 (Int32.toNatClampNeg 0) r3.toInt64) fun S11 =>
  some (0, S11))
