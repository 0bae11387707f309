def f_X5_init (F : Nat) (S0 : St) (n : Nat) (p0 : Nat) (p1 : Int32) : Option (St × Nat) :=
  ck (¬ (if (0 : Int32) < p1 then p1 else (0 : Int32)) < 0 ∧ Int32.toNatClampNeg (if (0 : Int32) < p1 then p1 else (0 : Int32)) ≤ 10) <|
  lt (nar S0 n (Int32.toNatClampNeg (if (0 : Int32) < p1 then p1 else (0 : Int32)))) fun S4 => lt (n + 1) fun n5 =>
  lt (ur S4 400 p0 (some n)) fun S11 =>
  some (S11, n5)
def f_X7_init (F : Nat) (S0 : St) (n : Nat) (p0 : Nat) : Option (St × Nat) :=
  lt (ui S0 601 p0 1) fun S1 =>
  lt (nob S1 n) fun S5 => lt (n + 1) fun n6 =>
  Option.bind (f_X5_init F S5 n6 n ((8 : Int32))) fun z11 => lt z11.1 fun S12 => lt z11.2 fun n14 =>
  lt (ur S12 602 p0 (some n)) fun S23 =>
  lt (nar S23 n14 8) fun S27 => lt (n14 + 1) fun n28 =>
  lt (ur S27 603 p0 (some n14)) fun S33 =>
  lt (nar S33 n28 8) fun S37 => lt (n28 + 1) fun n38 =>
  lt (ur S37 604 p0 (some n28)) fun S43 =>
  lt (nar S43 n38 8) fun S47 => lt (n38 + 1) fun n48 =>
  lt (ur S47 605 p0 (some n38)) fun S53 =>
  lt (nob S53 n48) fun S57 => lt (n48 + 1) fun n58 =>
  Option.bind (f_X5_init F S57 n58 n48 ((10 : Int32))) fun z63 => lt z63.1 fun S64 => lt z63.2 fun n66 =>
  lt (ur S64 606 p0 (some n48)) fun S75 =>
  lt (nar S75 n66 10) fun S79 => lt (n66 + 1) fun n80 =>
  lt (ur S79 607 p0 (some n66)) fun S85 =>
  lt (nar S85 n80 10) fun S89 => lt (n80 + 1) fun n90 =>
  lt (ur S89 608 p0 (some n80)) fun S95 =>
  lt (nob S95 n90) fun S99 => lt (n90 + 1) fun n100 =>
  Option.bind (f_X5_init F S99 n100 n90 ((6 : Int32))) fun z105 => lt z105.1 fun S106 => lt z105.2 fun n108 =>
  lt (ur S106 609 p0 (some n90)) fun S117 =>
  lt (nar S117 n108 6) fun S121 => lt (n108 + 1) fun n122 =>
  lt (ur S121 610 p0 (some n108)) fun S127 =>
  lt (nob S127 n122) fun S131 => lt (n122 + 1) fun n132 =>
  Option.bind (f_X5_init F S131 n132 n122 ((6 : Int32))) fun z137 => lt z137.1 fun S138 => lt z137.2 fun n140 =>
  lt (ur S138 611 p0 (some n122)) fun S149 =>
  lt (nar S149 n140 6) fun S153 => lt (n140 + 1) fun n154 =>
  lt (ur S153 612 p0 (some n140)) fun S159 =>
  lt (nar S159 n154 6) fun S163 => lt (n154 + 1) fun n164 =>
  lt (ur S163 613 p0 (some n154)) fun S169 =>
  lt (nar S169 n164 6) fun S173 => lt (n164 + 1) fun n174 =>
  lt (ur S173 614 p0 (some n164)) fun S179 =>
  lt (nar S179 n174 6) fun S183 => lt (n174 + 1) fun n184 =>
  lt (ur S183 615 p0 (some n174)) fun S189 =>
  some (S189, n184)
def f_X0_init (F : Nat) (S0 : St) (n : Nat) (p0 : Nat) (p1 : Int32) : Option (St × Nat) :=
  ck (¬ (if (0 : Int32) < p1 then p1 else (0 : Int32)) < 0 ∧ Int32.toNatClampNeg (if (0 : Int32) < p1 then p1 else (0 : Int32)) ≤ 2040) <|
  lt (nar S0 n (Int32.toNatClampNeg (if (0 : Int32) < p1 then p1 else (0 : Int32)))) fun S4 => lt (n + 1) fun n5 =>
  lt (ur S4 0 p0 (some n)) fun S11 =>
  some (S11, n5)
def f_X1_init (F : Nat) (S0 : St) (n : Nat) (p0 : Nat) (p1 : Nat) : Option (St × Nat) :=
  lt (ur S0 100 p0 (some p1)) fun S1 =>
  lt (nar S1 n 4) fun S5 => lt (n + 1) fun n6 =>
  lt (ur S5 101 p0 (some n)) fun S13 =>
  lt (nar S13 n6 4) fun S17 => lt (n6 + 1) fun n18 =>
  lt (ur S17 102 p0 (some n6)) fun S25 =>
  some (S25, n18)
def f_X9_init (F : Nat) (S0 : St) (n : Nat) (p0 : Nat) : Option (St × Nat) :=
  lt (nar S0 n 480) fun S4 => lt (n + 1) fun n5 =>
  lt (ur S4 803 p0 (some n)) fun S10 =>
  lt (nar S10 n5 480) fun S14 => lt (n5 + 1) fun n15 =>
  lt (ur S14 804 p0 (some n5)) fun S20 =>
  lt (nar S20 n15 480) fun S24 => lt (n15 + 1) fun n25 =>
  lt (ur S24 805 p0 (some n15)) fun S30 =>
  lt (nar S30 n25 480) fun S34 => lt (n25 + 1) fun n35 =>
  lt (ur S34 806 p0 (some n25)) fun S40 =>
  lt (nob S40 n35) fun S44 => lt (n35 + 1) fun n45 =>
  Option.bind (f_X0_init F S44 n45 n35 ((0 : Int32))) fun z50 => lt z50.1 fun S51 => lt z50.2 fun n53 =>
  lt (ur S51 807 p0 (some n35)) fun S62 =>
  some (S62, n53)
def f_X2_init (F : Nat) (S0 : St) (n : Nat) (p0 : Nat) : Option (St × Nat) :=
  lt (nar S0 n 60) fun S4 => lt (n + 1) fun n5 =>
  lt (ur S4 200 p0 (some n)) fun S10 =>
  lt (nar S10 n5 60) fun S14 => lt (n5 + 1) fun n15 =>
  lt (ur S14 201 p0 (some n5)) fun S20 =>
  lt (nar S20 n15 60) fun S24 => lt (n15 + 1) fun n25 =>
  lt (ur S24 202 p0 (some n15)) fun S30 =>
  some (S30, n25)
def f_X4_init (F : Nat) (S0 : St) (n : Nat) (p0 : Nat) (p1 : Int32) (p2 : Int32) (p3 : Int32) (p4 : Int32) : Option (St × Nat) :=
  lt (ui S0 300 p0 p1) fun S1 =>
  lt (ui S1 301 p0 p2) fun S2 =>
  lt (ui S2 302 p0 p3) fun S3 =>
  ck (¬ (if (0 : Int32) < p4 then p4 else (0 : Int32)) < 0 ∧ Int32.toNatClampNeg (if (0 : Int32) < p4 then p4 else (0 : Int32)) ≤ 4) <|
  lt (nar S3 n (Int32.toNatClampNeg (if (0 : Int32) < p4 then p4 else (0 : Int32)))) fun S7 => lt (n + 1) fun n8 =>
  lt (ur S7 303 p0 (some n)) fun S14 =>
  some (S14, n8)
def f_X8_init (F : Nat) (S0 : St) (n : Nat) (p0 : Nat) (p1 : Nat) : Option (St × Nat) :=
  lt (ur S0 700 p0 (some p1)) fun S1 =>
  lt (nar S1 n 10) fun S5 => lt (n + 1) fun n6 =>
  lt (ur S5 704 p0 (some n)) fun S13 =>
  lt (nar S13 n6 120) fun S17 => lt (n6 + 1) fun n18 =>
  lt (ur S17 706 p0 (some n6)) fun S25 =>
  lt (nar S25 n18 1200) fun S29 => lt (n18 + 1) fun n30 =>
  lt (ur S29 707 p0 (some n18)) fun S37 =>
  lt (nar S37 n30 1200) fun S41 => lt (n30 + 1) fun n42 =>
  lt (ur S41 708 p0 (some n30)) fun S49 =>
  lt (nar S49 n42 1200) fun S53 => lt (n42 + 1) fun n54 =>
  lt (ur S53 709 p0 (some n42)) fun S61 =>
  lt (nob S61 n54) fun S65 => lt (n54 + 1) fun n66 =>
  Option.bind (f_X9_init F S65 n66 n54) fun z73 => lt z73.1 fun S74 => lt z73.2 fun n76 =>
  lt (ur S74 710 p0 (some n54)) fun S87 =>
  lt (nob S87 n76) fun S91 => lt (n76 + 1) fun n92 =>
  Option.bind (f_X2_init F S91 n92 n76) fun z99 => lt z99.1 fun S100 => lt z99.2 fun n102 =>
  lt (ur S100 711 p0 (some n76)) fun S113 =>
  lt (nar S113 n102 1200) fun S117 => lt (n102 + 1) fun n118 =>
  lt (ur S117 712 p0 (some n102)) fun S125 =>
  lt (ui S125 713 p0 1000000000) fun S126 =>
  lt (nar S126 n118 8) fun S130 => lt (n118 + 1) fun n131 =>
  lt (ur S130 714 p0 (some n118)) fun S138 =>
  lt (nob S138 n131) fun S142 => lt (n131 + 1) fun n143 =>
  Option.bind (f_X4_init F S142 n143 n131 (((-1) : Int32)) (((-1) : Int32)) ((0 : Int32)) ((0 : Int32))) fun z150 => lt z150.1 fun S151 => lt z150.2 fun n153 =>
  lt (ur S151 715 p0 (some n131)) fun S164 =>
  some (S164, n153)
def f_X10_init_L800124 (F : Nat) (S0 : St) (nL : Nat) (v0 : Nat) : Option (St × Nat) :=
  lt (nar S0 nL 480) fun S4 => lt (nL + 1) fun n5 =>
  lt (ur S4 910 v0 (some nL)) fun S10 =>
  some (S10, n5)
def f_X10_init (F : Nat) (S0 : St) (n : Nat) (p0 : Nat) : Option (St × Nat) :=
  lt (nob S0 n) fun S24 => lt (n + 1) fun n25 =>
  Option.bind (f_X7_init F S24 n25 n) fun z30 => lt z30.1 fun S31 => lt z30.2 fun n33 =>
  lt (nob S31 n33) fun S45 => lt (n33 + 1) fun n46 =>
  Option.bind (f_X0_init F S45 n46 n33 ((1200 : Int32))) fun z53 => lt z53.1 fun S54 => lt z53.2 fun n56 =>
  lt (ur S54 900 p0 (some n33)) fun S67 =>
  lt (nob S67 n56) fun S71 => lt (n56 + 1) fun n72 =>
  Option.bind (f_X0_init F S71 n72 n56 ((2040 : Int32))) fun z79 => lt z79.1 fun S80 => lt z79.2 fun n82 =>
  lt (ur S80 901 p0 (some n56)) fun S93 =>
  lt (nob S93 n82) fun S97 => lt (n82 + 1) fun n98 =>
  Option.bind (sr S97 900 p0) fun j105 =>
  Option.bind (f_X1_init F S97 n98 n82 j105) fun z106 => lt z106.1 fun S107 => lt z106.2 fun n109 =>
  lt (ur S107 902 p0 (some n82)) fun S120 =>
  lt (ui S120 904 p0 ((-1))) fun S121 =>
  lt (nob S121 n109) fun S125 => lt (n109 + 1) fun n126 =>
  Option.bind (f_X8_init F S125 n126 n109 n) fun z133 => lt z133.1 fun S134 => lt z133.2 fun n136 =>
  lt (ur S134 905 p0 (some n109)) fun S147 =>
  lt (nob S147 n136) fun S151 => lt (n136 + 1) fun n152 =>
  Option.bind (f_X8_init F S151 n152 n136 n) fun z159 => lt z159.1 fun S160 => lt z159.2 fun n162 =>
  lt (ur S160 906 p0 (some n136)) fun S173 =>
  lt (nar S173 n162 6) fun S177 => lt (n162 + 1) fun n178 =>
  lt (ur S177 907 p0 (some n162)) fun S185 =>
  Option.bind (sr S185 907 p0) fun j186 =>
  if (nI (ln S185 j186)) ≤ 0 then
  (f_X10_init_L800124 F S185 n178 p0)
  else
  (Option.bind (sr S185 907 p0) fun j188 =>
  lt (nob S185 n178) fun S192 => lt (n178 + 1) fun n193 =>
  Option.bind (f_X8_init F S192 n193 n178 n) fun z202 => lt z202.1 fun S203 => lt z202.2 fun n205 =>
  cki 0 (ln S203 j188) <|
  lt (uar S203 j188 (Int32.toNatClampNeg 0) (some n178)) fun S219 =>
  lt (0 + 1) fun x220 =>
  Option.bind (sr S219 907 p0) fun j221 =>
  if (nI (ln S219 j221)) ≤ x220 then
  (f_X10_init_L800124 F S219 n205 p0)
  else
  (Option.bind (sr S219 907 p0) fun j223 =>
  lt (nob S219 n205) fun S227 => lt (n205 + 1) fun n228 =>
  Option.bind (f_X8_init F S227 n228 n205 n) fun z237 => lt z237.1 fun S238 => lt z237.2 fun n240 =>
  cki x220 (ln S238 j223) <|
  lt (uar S238 j223 (Int32.toNatClampNeg x220) (some n205)) fun S254 =>
  lt (x220 + 1) fun x255 =>
  Option.bind (sr S254 907 p0) fun j256 =>
  if (nI (ln S254 j256)) ≤ x255 then
  (f_X10_init_L800124 F S254 n240 p0)
  else
  (Option.bind (sr S254 907 p0) fun j258 =>
  lt (nob S254 n240) fun S262 => lt (n240 + 1) fun n263 =>
  Option.bind (f_X8_init F S262 n263 n240 n) fun z272 => lt z272.1 fun S273 => lt z272.2 fun n275 =>
  cki x255 (ln S273 j258) <|
  lt (uar S273 j258 (Int32.toNatClampNeg x255) (some n240)) fun S289 =>
  lt (x255 + 1) fun x290 =>
  Option.bind (sr S289 907 p0) fun j291 =>
  if (nI (ln S289 j291)) ≤ x290 then
  (f_X10_init_L800124 F S289 n275 p0)
  else
  (Option.bind (sr S289 907 p0) fun j293 =>
  lt (nob S289 n275) fun S297 => lt (n275 + 1) fun n298 =>
  Option.bind (f_X8_init F S297 n298 n275 n) fun z307 => lt z307.1 fun S308 => lt z307.2 fun n310 =>
  cki x290 (ln S308 j293) <|
  lt (uar S308 j293 (Int32.toNatClampNeg x290) (some n275)) fun S324 =>
  lt (x290 + 1) fun x325 =>
  Option.bind (sr S324 907 p0) fun j326 =>
  if (nI (ln S324 j326)) ≤ x325 then
  (f_X10_init_L800124 F S324 n310 p0)
  else
  (Option.bind (sr S324 907 p0) fun j328 =>
  lt (nob S324 n310) fun S332 => lt (n310 + 1) fun n333 =>
  Option.bind (f_X8_init F S332 n333 n310 n) fun z342 => lt z342.1 fun S343 => lt z342.2 fun n345 =>
  cki x325 (ln S343 j328) <|
  lt (uar S343 j328 (Int32.toNatClampNeg x325) (some n310)) fun S359 =>
  lt (x325 + 1) fun x360 =>
  Option.bind (sr S359 907 p0) fun j361 =>
  if (nI (ln S359 j361)) ≤ x360 then
  (f_X10_init_L800124 F S359 n345 p0)
  else
  (Option.bind (sr S359 907 p0) fun j363 =>
  lt (nob S359 n345) fun S367 => lt (n345 + 1) fun n368 =>
  Option.bind (f_X8_init F S367 n368 n345 n) fun z377 => lt z377.1 fun S378 => lt z377.2 fun n380 =>
  cki x360 (ln S378 j363) <|
  lt (uar S378 j363 (Int32.toNatClampNeg x360) (some n345)) fun S394 =>
  lt (x360 + 1) fun x395 =>
  Option.bind (sr S394 907 p0) fun j396 =>
  if (nI (ln S394 j396)) ≤ x395 then
  (f_X10_init_L800124 F S394 n380 p0)
  else
  (none)))))))
def f_X0_add (F : Nat) (S0 : St) (p0 : Nat) (p1 : Int32) : Option (St) :=
  if (si S0 1 p0) < 0 then
  (some S0)
  else
  (Option.bind (sr S0 0 p0) fun j2 =>
  if (nI (ln S0 j2)) ≤ (si S0 1 p0) then
  (some S0)
  else
  (Option.bind (sr S0 0 p0) fun j4 =>
  cki (si S0 1 p0) (ln S0 j4) <|
  lt (uai S0 j4 (Int32.toNatClampNeg (si S0 1 p0)) (Int32.toInt8 p1.toInt8.toInt32).toInt32) fun S6 =>
  lt (ui S6 1 p0 ((si S6 1 p0) + 1)) fun S7 =>
  some S7))
def f_X0_addFour (F : Nat) (S0 : St) (p0 : Nat) (p1 : Int32) : Option (St) :=
  Option.bind (f_X0_add F S0 p0 ((p1.toUInt32 >>> ((24 : Int32).toUInt32 &&& Int32.toUInt32 31)).toInt32)) fun S2 =>
  Option.bind (f_X0_add F S2 p0 ((p1.toUInt32 >>> ((16 : Int32).toUInt32 &&& Int32.toUInt32 31)).toInt32)) fun S6 =>
  Option.bind (f_X0_add F S6 p0 ((p1.toUInt32 >>> ((8 : Int32).toUInt32 &&& Int32.toUInt32 31)).toInt32)) fun S10 =>
  Option.bind (f_X0_add F S10 p0 p1) fun S14 =>
  some S14
def f_X10_append (F : Nat) (S0 : St) (p0 : Nat) (p1 : Int32) (p2 : Int32) (p3 : Int32) (p4 : Int32) (p5 : Int32) : Option ((Nat ⊕ Int32) × St) :=
  Option.bind (sr S0 900 p0) fun j1 =>
  if ((si S0 1 j1) + 20) ≤ 1200 then
  (Option.bind (sr S0 900 p0) fun j3 =>
  Option.bind (f_X0_addFour F S0 j3 p1) fun S5 =>
  Option.bind (sr S5 900 p0) fun j8 =>
  Option.bind (f_X0_addFour F S5 j8 p2) fun S10 =>
  Option.bind (sr S10 900 p0) fun j13 =>
  Option.bind (f_X0_addFour F S10 j13 p3) fun S15 =>
  Option.bind (sr S15 900 p0) fun j18 =>
  Option.bind (f_X0_addFour F S15 j18 p4) fun S20 =>
  Option.bind (sr S20 900 p0) fun j23 =>
  Option.bind (f_X0_addFour F S20 j23 p5) fun S25 =>
  Option.bind (sr S25 900 p0) fun j28 =>
  some (.inr (si S25 1 j28), S25))
  else
  (some (.inl 1, S0))
def f_X0_cutTo (F : Nat) (S0 : St) (p0 : Nat) (p1 : Int32) : Option (St) :=
  if p1 < 0 then
  (some S0)
  else
  (if (si S0 1 p0) ≤ p1 then
  (some S0)
  else
  (lt (ui S0 1 p0 p1) fun S3 =>
  some S3))
def f_X10_truncate_L15 (F : Nat) (S0 : St) : Option ((Nat ⊕ Unit) × St) :=
  some (.inl 2, S0)
def f_X10_truncate (F : Nat) (S0 : St) (p0 : Nat) (p1 : Int32) : Option ((Nat ⊕ Unit) × St) :=
  if p1 < 0 then
  (f_X10_truncate_L15 F S0)
  else
  (Option.bind (sr S0 900 p0) fun j2 =>
  if p1 ≤ (si S0 1 j2) then
  (Option.bind (sr S0 900 p0) fun j4 =>
  Option.bind (f_X0_cutTo F S0 j4 p1) fun S6 =>
  some (.inr (), S6))
  else
  (f_X10_truncate_L15 F S0))
def f_X6_init (F : Nat) (S0 : St) (n : Nat) (p0 : Nat) (p1 : Nat) : Option (St × Nat) :=
  lt (ur S0 500 p0 (some p1)) fun S1 =>
  lt (nob S1 n) fun S5 => lt (n + 1) fun n6 =>
  Option.bind (f_X7_init F S5 n6 n) fun z13 => lt z13.1 fun S14 => lt z13.2 fun n16 =>
  lt (ur S14 501 p0 (some n)) fun S27 =>
  lt (ui S27 503 p0 ((-1))) fun S28 =>
  some (S28, n16)
def f_X0_byteAt (F : Nat) (S0 : St) (p0 : Nat) (p1 : Int32) : Option (Int32 × St) :=
  if p1 < 0 then
  (some ((-1), S0))
  else
  (if (si S0 1 p0) ≤ p1 then
  (some ((-1), S0))
  else
  (Option.bind (sr S0 0 p0) fun j3 =>
  if (nI (ln S0 j3)) ≤ p1 then
  (some ((-1), S0))
  else
  (Option.bind (sr S0 0 p0) fun j5 =>
  cki p1 (ln S0 j5) <|
  some ((ai S0 j5 (Int32.toNatClampNeg p1)) &&& 255, S0))))
def f_X6_isBlank (F : Nat) (S0 : St) (p0 : Int32) : Option (Int32 × St) :=
  if p0 = 32 then
  (some (1, S0))
  else
  (if ¬ p0 = 10 then
  (some (0, S0))
  else
  (some (1, S0)))
def f_X10_isLetter (F : Nat) (S0 : St) (p0 : Int32) : Option (Int32 × St) :=
  if p0 < 97 then
  (some (0, S0))
  else
  (if 122 < p0 then
  (some (0, S0))
  else
  (some (1, S0)))
def f_X10_withLetter (F : Nat) (S0 : St) (p0 : Int64) (p1 : Int32) : Option (Int64 × St) :=
  if (lg_cmp p0 ((-1))) = 0 then
  (some ((-1), S0))
  else
  (if (lg_cmp p0 ((7625597484987))) < 0 then
  (some ((p0 * ((27))) + (((p1 - 97) + 1).toInt64), S0))
  else
  (some ((-1), S0)))
def f_X6_readWord_L109 (F : Nat) (k80 : St → Nat → Int32 → Int32 → Option (St)) (S0 : St) (v0 : Nat) (v2 : Int32) (v3 : Int32) : Option (St) :=
  lt (v3 + 1) fun x1 =>
  k80 S0 v0 v2 x1
def f_X6_readWord_L80 (F : Nat) : Nat → St → Nat → Int32 → Int32 → Option (St)
  | 0, _, _, _, _ => none
  | fu + 1, S0, v0, v2, v3 =>
    if v2 ≤ v3 then
    (some S0)
    else
    (cki v3 15 <|
    if ¬ (lg_cmp (kwW.getD (Int32.toNatClampNeg v3) 0) (sl S0 507 v0)) = 0 then
    (f_X6_readWord_L109 F (fun a0 a1 a2 a3 => f_X6_readWord_L80 F fu a0 a1 a2 a3) S0 v0 v2 v3)
    else
    (lt (ur S0 508 v0 (some (Int32.toNatClampNeg v3))) fun S6 =>
    f_X6_readWord_L109 F (fun a0 a1 a2 a3 => f_X6_readWord_L80 F fu a0 a1 a2 a3) S6 v0 v2 v3))
def f_X6_readWord_L71 (F : Nat) (S0 : St) (v0 : Nat) : Option (St) :=
  f_X6_readWord_L80 F F S0 v0 15 0
def f_X6_readWord_L5 (F : Nat) : Nat → St → Nat → Option (St)
  | 0, _, _ => none
  | fu + 1, S0, v0 =>
    Option.bind (sr S0 500 v0) fun j11 =>
    if (si S0 1 j11) ≤ (si S0 504 v0) then
    (f_X6_readWord_L71 F S0 v0)
    else
    (Option.bind (sr S0 500 v0) fun j13 =>
    Option.bind (f_X0_byteAt F S0 j13 (si S0 504 v0)) fun z14 => lt z14.1 fun r16 => lt z14.2 fun S15 =>
    Option.bind (f_X10_isLetter F S15 r16) fun z18 => lt z18.1 fun r20 => lt z18.2 fun S19 =>
    if r20 = 0 then
    (f_X6_readWord_L71 F S19 v0)
    else
    (Option.bind (sr S19 500 v0) fun j23 =>
    Option.bind (f_X0_byteAt F S19 j23 (si S19 504 v0)) fun z24 => lt z24.1 fun r26 => lt z24.2 fun S25 =>
    Option.bind (f_X10_withLetter F S25 (sl S19 507 v0) r26) fun z28 => lt z28.1 fun r30 => lt z28.2 fun S29 =>
    lt (ul S29 507 v0 r30) fun S32 =>
    lt (ui S32 504 v0 ((si S32 504 v0) + 1)) fun S33 =>
    (fun a0 a1 => f_X6_readWord_L5 F fu a0 a1) S33 v0))
def f_X6_readWord (F : Nat) (S0 : St) (p0 : Nat) : Option (St) :=
  lt (ui S0 506 p0 1) fun S57 =>
  f_X6_readWord_L5 F F S57 p0
def f_X10_isDigit (F : Nat) (S0 : St) (p0 : Int32) : Option (Int32 × St) :=
  if p0 < 48 then
  (some (0, S0))
  else
  (if 57 < p0 then
  (some (0, S0))
  else
  (some (1, S0)))
def f_X6_readNumber_L5 (F : Nat) : Nat → St → Nat → Option (St)
  | 0, _, _ => none
  | fu + 1, S0, v0 =>
    Option.bind (sr S0 500 v0) fun j1 =>
    if (si S0 1 j1) ≤ (si S0 504 v0) then
    (some S0)
    else
    (Option.bind (sr S0 500 v0) fun j3 =>
    Option.bind (f_X0_byteAt F S0 j3 (si S0 504 v0)) fun z4 => lt z4.1 fun r6 => lt z4.2 fun S5 =>
    Option.bind (f_X10_isDigit F S5 r6) fun z8 => lt z8.1 fun r10 => lt z8.2 fun S9 =>
    if r10 = 0 then
    (some S9)
    else
    (Option.bind (sr S9 500 v0) fun j13 =>
    Option.bind (f_X0_byteAt F S9 j13 (si S9 504 v0)) fun z14 => lt z14.1 fun r16 => lt z14.2 fun S15 =>
    lt (ui S15 509 v0 (if (((si S9 509 v0) * 10) + (r16 - 48)) < (10000000 : Int32) then (((si S9 509 v0) * 10) + (r16 - 48)) else (10000000 : Int32))) fun S18 =>
    lt (ui S18 504 v0 ((si S18 504 v0) + 1)) fun S19 =>
    (fun a0 a1 => f_X6_readNumber_L5 F fu a0 a1) S19 v0))
def f_X6_readNumber (F : Nat) (S0 : St) (p0 : Nat) : Option (St) :=
  lt (ui S0 506 p0 2) fun S39 =>
  f_X6_readNumber_L5 F F S39 p0
def f_X6_nextToken_L44 (F : Nat) (S0 : St) (v0 : Nat) : Option (St) :=
  lt (ui S0 505 v0 (si S0 504 v0)) fun S1 =>
  lt (ur S1 508 v0 none) fun S2 =>
  lt (ul S2 507 v0 0) fun S3 =>
  lt (ui S3 509 v0 0) fun S4 =>
  Option.bind (sr S4 500 v0) fun j5 =>
  Option.bind (f_X0_byteAt F S4 j5 (si S4 504 v0)) fun z6 => lt z6.1 fun r8 => lt z6.2 fun S7 =>
  Option.bind (sr S7 500 v0) fun j10 =>
  if (si S7 504 v0) < (si S7 1 j10) then
  (Option.bind (f_X10_isLetter F S7 r8) fun z12 => lt z12.1 fun r14 => lt z12.2 fun S13 =>
  if r14 = 0 then
  (Option.bind (f_X10_isDigit F S13 r8) fun z17 => lt z17.1 fun r19 => lt z17.2 fun S18 =>
  if r19 = 0 then
  (lt (ui S18 506 v0 3) fun S22 =>
  lt (ui S22 509 v0 r8) fun S23 =>
  lt (ui S23 504 v0 ((si S23 504 v0) + 1)) fun S24 =>
  some S24)
  else
  (Option.bind (f_X6_readNumber F S18 v0) fun S26 =>
  some S26))
  else
  (Option.bind (f_X6_readWord F S13 v0) fun S30 =>
  some S30))
  else
  (lt (ui S7 506 v0 0) fun S33 =>
  some S33)
def f_X6_nextToken_L0 (F : Nat) : Nat → St → Nat → Option (St)
  | 0, _, _ => none
  | fu + 1, S0, v0 =>
    Option.bind (sr S0 500 v0) fun j67 =>
    if (si S0 1 j67) ≤ (si S0 504 v0) then
    (f_X6_nextToken_L44 F S0 v0)
    else
    (Option.bind (sr S0 500 v0) fun j69 =>
    Option.bind (f_X0_byteAt F S0 j69 (si S0 504 v0)) fun z70 => lt z70.1 fun r72 => lt z70.2 fun S71 =>
    Option.bind (f_X6_isBlank F S71 r72) fun z74 => lt z74.1 fun r76 => lt z74.2 fun S75 =>
    if r76 = 0 then
    (f_X6_nextToken_L44 F S75 v0)
    else
    (lt (ui S75 504 v0 ((si S75 504 v0) + 1)) fun S79 =>
    (fun a0 a1 => f_X6_nextToken_L0 F fu a0 a1) S79 v0))
def f_X6_nextToken (F : Nat) (S0 : St) (p0 : Nat) : Option (St) :=
  f_X6_nextToken_L0 F F S0 p0
def f_X6_fail (F : Nat) (S0 : St) (p0 : Nat) (p1 : Int32) : Option (Int32 × St) :=
  lt (ui S0 502 p0 p1) fun S1 =>
  lt (ui S1 503 p0 (si S1 505 p0)) fun S2 =>
  some (0, S2)
def f_X6_take (F : Nat) (S0 : St) (p0 : Nat) (p1 : Nat) : Option (Int32 × St) :=
  ck ((sr S0 508 p0).getD 0 < 15) <|
  if (sr S0 508 p0) = some p1 then
  (Option.bind (f_X6_nextToken F S0 p0) fun S4 =>
  some (1, S4))
  else
  (Option.bind (f_X6_fail F S0 p0 ((1 : Int32))) fun z7 => lt z7.1 fun r9 => lt z7.2 fun S8 =>
  ck (r9 = 0 ∨ r9 = 1) <| some (r9, S8))
def f_X6_takeNumber_L38 (F : Nat) (S0 : St) (s0 : Int32) (s1 : Nat) : Option (Int32 × St) :=
  Option.bind (f_X6_fail F S0 s1 s0) fun z1 => lt z1.1 fun r3 => lt z1.2 fun S2 =>
  some ((-1), S2)
def f_X6_takeNumber_L24 (F : Nat) (S0 : St) (v0 : Nat) : Option (Int32 × St) :=
  if ¬ (si S0 506 v0) = 2 then
  (f_X6_takeNumber_L38 F S0 1 v0)
  else
  (f_X6_takeNumber_L38 F S0 2 v0)
def f_X6_takeNumber (F : Nat) (S0 : St) (p0 : Nat) (p1 : Int32) (p2 : Int32) : Option (Int32 × St) :=
  if ¬ (si S0 506 p0) = 2 then
  (f_X6_takeNumber_L24 F S0 p0)
  else
  (if (si S0 509 p0) < p1 then
  (f_X6_takeNumber_L24 F S0 p0)
  else
  (if (si S0 509 p0) ≤ p2 then
  (lt (si S0 509 p0) fun x14 =>
  Option.bind (f_X6_nextToken F S0 p0) fun S16 =>
  some (x14, S16))
  else
  (f_X6_takeNumber_L24 F S0 p0)))
def f_X6_isSymbol (F : Nat) (S0 : St) (p0 : Nat) (p1 : Int32) : Option (Int32 × St) :=
  if ¬ (si S0 506 p0) = 3 then
  (some (0, S0))
  else
  (if ¬ (si S0 509 p0) = p1 then
  (some (0, S0))
  else
  (some (1, S0)))
def f_X6_takeSymbol (F : Nat) (S0 : St) (p0 : Nat) (p1 : Int32) : Option (Int32 × St) :=
  Option.bind (f_X6_isSymbol F S0 p0 p1) fun z1 => lt z1.1 fun r3 => lt z1.2 fun S2 =>
  if ¬ r3 = 0 then
  (Option.bind (f_X6_nextToken F S2 p0) fun S7 =>
  some (1, S7))
  else
  (Option.bind (f_X6_fail F S2 p0 ((1 : Int32))) fun z10 => lt z10.1 fun r12 => lt z10.2 fun S11 =>
  ck (r12 = 0 ∨ r12 = 1) <| some (r12, S11))
def f_X6_spoolStatement (F : Nat) (S0 : St) (p0 : Nat) : Option (Int32 × St) :=
  Option.bind (f_X6_take F S0 p0 0) fun z1 => lt z1.1 fun r3 => lt z1.2 fun S2 =>
  if r3 = 0 then
  (some (0, S2))
  else
  (Option.bind (f_X6_take F S2 p0 1) fun z6 => lt z6.1 fun r8 => lt z6.2 fun S7 =>
  if ¬ r8 = 0 then
  (Option.bind (sr S7 501 p0) fun j11 =>
  Option.bind (f_X6_takeNumber F S7 p0 ((0 : Int32)) ((30 : Int32))) fun z12 => lt z12.1 fun r14 => lt z12.2 fun S13 =>
  lt (ui S13 600 j11 r14) fun S16 =>
  Option.bind (sr S16 501 p0) fun j17 =>
  if (si S16 600 j17) = ((-1)) then
  (some (0, S16))
  else
  (Option.bind (f_X6_take F S16 p0 2) fun z19 => lt z19.1 fun r21 => lt z19.2 fun S20 =>
  if ¬ r21 = 0 then
  (Option.bind (sr S20 501 p0) fun j24 =>
  Option.bind (f_X6_takeNumber F S20 p0 ((1 : Int32)) ((30 : Int32))) fun z25 => lt z25.1 fun r27 => lt z25.2 fun S26 =>
  lt (ui S26 601 j24 r27) fun S29 =>
  Option.bind (sr S29 501 p0) fun j30 =>
  if (si S29 601 j30) = ((-1)) then
  (some (0, S29))
  else
  (Option.bind (f_X6_takeSymbol F S29 p0 ((59 : Int32))) fun z32 => lt z32.1 fun r34 => lt z32.2 fun S33 =>
  if r34 = 0 then
  (some (0, S33))
  else
  (some (1, S33))))
  else
  (some (0, S20))))
  else
  (some (0, S7)))
def f_X5_isFull (F : Nat) (S0 : St) (p0 : Nat) : Option (Int32 × St) :=
  Option.bind (sr S0 400 p0) fun j1 =>
  if (si S0 401 p0) < (nI (ln S0 j1)) then
  (some (0, S0))
  else
  (some (1, S0))
def f_X6_isName (F : Nat) (S0 : St) (p0 : Nat) : Option (Int32 × St) :=
  if ¬ (si S0 506 p0) = 1 then
  (some (0, S0))
  else
  (if ¬ (sr S0 508 p0) = none then
  (some (0, S0))
  else
  (if (lg_cmp (sl S0 507 p0) 0) ≤ 0 then
  (some (0, S0))
  else
  (if 0 ≤ (lg_cmp (sl S0 507 p0) ((387420489))) then
  (some (0, S0))
  else
  (some (1, S0)))))
def f_X5_numberOf_L2 (F : Nat) : Nat → St → Nat → Int64 → Int32 → Option (Int32 × St)
  | 0, _, _, _, _ => none
  | fu + 1, S0, v0, v1, v3 =>
    if (si S0 401 v0) ≤ v3 then
    (some ((-1), S0))
    else
    (Option.bind (sr S0 400 v0) fun j2 =>
    if (nI (ln S0 j2)) ≤ v3 then
    (some ((-1), S0))
    else
    (Option.bind (sr S0 400 v0) fun j4 =>
    cki v3 (ln S0 j4) <|
    if ¬ (lg_cmp (al S0 j4 (Int32.toNatClampNeg v3)) v1) = 0 then
    (lt (v3 + 1) fun x7 =>
    (fun a0 a1 a2 a3 => f_X5_numberOf_L2 F fu a0 a1 a2 a3) S0 v0 v1 x7)
    else
    (some (v3, S0))))
def f_X5_numberOf (F : Nat) (S0 : St) (p0 : Nat) (p1 : Int64) : Option (Int32 × St) :=
  f_X5_numberOf_L2 F F S0 p0 p1 0
def f_X6_takeNewName_L39 (F : Nat) (S0 : St) (v0 : Nat) : Option (Int64 × St) :=
  Option.bind (f_X6_fail F S0 v0 ((3 : Int32))) fun z1 => lt z1.1 fun r3 => lt z1.2 fun S2 =>
  some (0, S2)
def f_X6_takeNewName (F : Nat) (S0 : St) (p0 : Nat) (p1 : Nat) (p2 : Nat) : Option (Int64 × St) :=
  Option.bind (f_X6_isName F S0 p0) fun z9 => lt z9.1 fun r11 => lt z9.2 fun S10 =>
  if ¬ r11 = 0 then
  (Option.bind (f_X5_numberOf F S10 p1 (sl S10 507 p0)) fun z14 => lt z14.1 fun r16 => lt z14.2 fun S15 =>
  if ¬ r16 = ((-1)) then
  (f_X6_takeNewName_L39 F S15 p0)
  else
  (Option.bind (f_X5_numberOf F S15 p2 (sl S15 507 p0)) fun z19 => lt z19.1 fun r21 => lt z19.2 fun S20 =>
  if r21 = ((-1)) then
  (lt (sl S20 507 p0) fun x24 =>
  Option.bind (f_X6_nextToken F S20 p0) fun S26 =>
  some (x24, S26))
  else
  (f_X6_takeNewName_L39 F S20 p0)))
  else
  (Option.bind (f_X6_fail F S10 p0 ((1 : Int32))) fun z29 => lt z29.1 fun r31 => lt z29.2 fun S30 =>
  some (0, S30))
def f_X6_takeKnown_L38 (F : Nat) (S0 : St) (s0 : Int32) (s1 : Nat) : Option (Int32 × St) :=
  Option.bind (f_X6_fail F S0 s1 s0) fun z1 => lt z1.1 fun r3 => lt z1.2 fun S2 =>
  some ((-1), S2)
def f_X6_takeKnown_L19 (F : Nat) (S0 : St) (v0 : Nat) (s0 : Int32) : Option (Int32 × St) :=
  if ¬ s0 = ((-1)) then
  (Option.bind (f_X6_nextToken F S0 v0) fun S11 =>
  some (s0, S11))
  else
  (Option.bind (f_X6_isName F S0 v0) fun z14 => lt z14.1 fun r16 => lt z14.2 fun S15 =>
  if r16 = 0 then
  (f_X6_takeKnown_L38 F S15 1 v0)
  else
  (f_X6_takeKnown_L38 F S15 3 v0))
def f_X6_takeKnown (F : Nat) (S0 : St) (p0 : Nat) (p1 : Nat) : Option (Int32 × St) :=
  Option.bind (f_X6_isName F S0 p0) fun z29 => lt z29.1 fun r31 => lt z29.2 fun S30 =>
  if r31 = 0 then
  (f_X6_takeKnown_L19 F S30 p0 ((-1)))
  else
  (Option.bind (f_X5_numberOf F S30 p1 (sl S30 507 p0)) fun z34 => lt z34.1 fun r36 => lt z34.2 fun S35 =>
  f_X6_takeKnown_L19 F S35 p0 r36)
def f_X5_add (F : Nat) (S0 : St) (p0 : Nat) (p1 : Int64) : Option (Int32 × St) :=
  lt (si S0 401 p0) fun x1 =>
  if x1 < 0 then
  (some (x1, S0))
  else
  (Option.bind (sr S0 400 p0) fun j3 =>
  if (nI (ln S0 j3)) ≤ x1 then
  (some (x1, S0))
  else
  (Option.bind (sr S0 400 p0) fun j5 =>
  cki x1 (ln S0 j5) <|
  lt (ual S0 j5 (Int32.toNatClampNeg x1) p1) fun S7 =>
  lt (ui S7 401 p0 ((si S7 401 p0) + 1)) fun S8 =>
  some (x1, S8)))
def f_X10_put (F : Nat) (S0 : St) (p0 : Nat) (p1 : Int32) (p2 : Int32) : Option (St) :=
  if p1 < 0 then
  (some S0)
  else
  (if (nI (ln S0 p0)) ≤ p1 then
  (some S0)
  else
  (cki p1 (ln S0 p0) <|
  lt (uai S0 p0 (Int32.toNatClampNeg p1) p2) fun S4 =>
  some S4))
def f_X7_addClass (F : Nat) (S0 : St) (p0 : Nat) (p1 : Int64) (p2 : Int32) (p3 : Int32) (p4 : Int32) : Option (St) :=
  Option.bind (sr S0 602 p0) fun j1 =>
  Option.bind (f_X5_add F S0 j1 p1) fun z2 => lt z2.1 fun r4 => lt z2.2 fun S3 =>
  Option.bind (sr S3 603 p0) fun j6 =>
  Option.bind (f_X10_put F S3 j6 r4 p2) fun S8 =>
  Option.bind (sr S8 604 p0) fun j11 =>
  Option.bind (f_X10_put F S8 j11 r4 p3) fun S13 =>
  Option.bind (sr S13 605 p0) fun j16 =>
  Option.bind (f_X10_put F S13 j16 r4 p4) fun S18 =>
  some S18
def f_X6_classStatement_L167 (F : Nat) (S0 : St) (v0 : Nat) (v1 : Int64) (v3 : Int32) (v4 : Int32) (v5 : Int32) : Option (Int32 × St) :=
  Option.bind (f_X6_takeSymbol F S0 v0 ((59 : Int32))) fun z1 => lt z1.1 fun r3 => lt z1.2 fun S2 =>
  if ¬ r3 = 0 then
  (Option.bind (sr S2 501 v0) fun j6 =>
  Option.bind (f_X7_addClass F S2 j6 v1 v3 v4 v5) fun S8 =>
  some (1, S8))
  else
  (some (0, S2))
def f_X6_classStatement_L129 (F : Nat) (S0 : St) (v0 : Nat) (v1 : Int64) (v3 : Int32) (v4 : Int32) : Option (Int32 × St) :=
  lt ((-1)) fun x21 =>
  ck ((sr S0 508 v0).getD 0 < 15) <|
  if ¬ (sr S0 508 v0) = some 7 then
  (f_X6_classStatement_L167 F S0 v0 v1 v3 v4 x21)
  else
  (Option.bind (f_X6_nextToken F S0 v0) fun S25 =>
  Option.bind (sr S25 501 v0) fun j28 =>
  Option.bind (sr S25 602 j28) fun j29 =>
  Option.bind (f_X6_takeKnown F S25 v0 j29) fun z30 => lt z30.1 fun r32 => lt z30.2 fun S31 =>
  if ¬ r32 = ((-1)) then
  (f_X6_classStatement_L167 F S31 v0 v1 v3 v4 r32)
  else
  (some (0, S31)))
def f_X6_classStatement_L95 (F : Nat) (S0 : St) (v0 : Nat) (v1 : Int64) (v3 : Int32) : Option (Int32 × St) :=
  ck ((sr S0 508 v0).getD 0 < 15) <|
  if ¬ (sr S0 508 v0) = some 6 then
  (f_X6_classStatement_L129 F S0 v0 v1 v3 0)
  else
  (Option.bind (f_X6_nextToken F S0 v0) fun S52 =>
  Option.bind (f_X6_takeNumber F S52 v0 ((1 : Int32)) ((99 : Int32))) fun z55 => lt z55.1 fun r57 => lt z55.2 fun S56 =>
  if ¬ r57 = ((-1)) then
  (f_X6_classStatement_L129 F S56 v0 v1 v3 r57)
  else
  (some (0, S56)))
def f_X6_classStatement (F : Nat) (S0 : St) (p0 : Nat) : Option (Int32 × St) :=
  Option.bind (sr S0 501 p0) fun j71 =>
  Option.bind (sr S0 602 j71) fun j72 =>
  Option.bind (f_X5_isFull F S0 j72) fun z73 => lt z73.1 fun r75 => lt z73.2 fun S74 =>
  if r75 = 0 then
  (Option.bind (f_X6_nextToken F S74 p0) fun S79 =>
  Option.bind (sr S79 501 p0) fun j82 =>
  Option.bind (sr S79 602 j82) fun j83 =>
  Option.bind (sr S79 501 p0) fun j84 =>
  Option.bind (sr S79 602 j84) fun j85 =>
  Option.bind (f_X6_takeNewName F S79 p0 j83 j85) fun z86 => lt z86.1 fun r88 => lt z86.2 fun S87 =>
  if (lg_cmp r88 0) = 0 then
  (some (0, S87))
  else
  (Option.bind (f_X6_take F S87 p0 4) fun z91 => lt z91.1 fun r93 => lt z91.2 fun S92 =>
  if ¬ r93 = 0 then
  (lt ((-1)) fun x96 =>
  ck ((sr S92 508 p0).getD 0 < 15) <|
  if ¬ (sr S92 508 p0) = some 5 then
  (Option.bind (f_X6_takeNumber F S92 p0 ((1 : Int32)) ((999 : Int32))) fun z99 => lt z99.1 fun r101 => lt z99.2 fun S100 =>
  if ¬ r101 = ((-1)) then
  (f_X6_classStatement_L95 F S100 p0 r88 r101)
  else
  (some (0, S100)))
  else
  (Option.bind (f_X6_nextToken F S92 p0) fun S105 =>
  f_X6_classStatement_L95 F S105 p0 r88 x96))
  else
  (some (0, S92))))
  else
  (Option.bind (f_X6_fail F S74 p0 ((4 : Int32))) fun z108 => lt z108.1 fun r110 => lt z108.2 fun S109 =>
  ck (r110 = 0 ∨ r110 = 1) <| some (r110, S109))
def f_X7_addUser (F : Nat) (S0 : St) (p0 : Nat) (p1 : Int64) (p2 : Int32) (p3 : Int32) : Option (St) :=
  Option.bind (sr S0 606 p0) fun j1 =>
  Option.bind (f_X5_add F S0 j1 p1) fun z2 => lt z2.1 fun r4 => lt z2.2 fun S3 =>
  Option.bind (sr S3 607 p0) fun j6 =>
  Option.bind (f_X10_put F S3 j6 r4 p2) fun S8 =>
  Option.bind (sr S8 608 p0) fun j11 =>
  Option.bind (f_X10_put F S8 j11 r4 p3) fun S13 =>
  some S13
def f_X6_userStatement_L26 (F : Nat) (S0 : St) (v0 : Nat) : Option (Int32 × St) :=
  Option.bind (f_X6_fail F S0 v0 ((4 : Int32))) fun z1 => lt z1.1 fun r3 => lt z1.2 fun S2 =>
  ck (r3 = 0 ∨ r3 = 1) <| some (r3, S2)
def f_X6_userStatement (F : Nat) (S0 : St) (p0 : Nat) : Option (Int32 × St) :=
  Option.bind (sr S0 501 p0) fun j11 =>
  Option.bind (sr S0 606 j11) fun j12 =>
  Option.bind (f_X5_isFull F S0 j12) fun z13 => lt z13.1 fun r15 => lt z13.2 fun S14 =>
  if ¬ r15 = 0 then
  (f_X6_userStatement_L26 F S14 p0)
  else
  (Option.bind (sr S14 501 p0) fun j18 =>
  Option.bind (sr S14 602 j18) fun j19 =>
  if ¬ (si S14 401 j19) = 0 then
  (Option.bind (f_X6_nextToken F S14 p0) fun S22 =>
  Option.bind (sr S22 501 p0) fun j25 =>
  Option.bind (sr S22 606 j25) fun j26 =>
  Option.bind (sr S22 501 p0) fun j27 =>
  Option.bind (sr S22 609 j27) fun j28 =>
  Option.bind (f_X6_takeNewName F S22 p0 j26 j28) fun z29 => lt z29.1 fun r31 => lt z29.2 fun S30 =>
  if (lg_cmp r31 0) = 0 then
  (some (0, S30))
  else
  (Option.bind (f_X6_take F S30 p0 3) fun z34 => lt z34.1 fun r36 => lt z34.2 fun S35 =>
  if ¬ r36 = 0 then
  (Option.bind (sr S35 501 p0) fun j39 =>
  Option.bind (sr S35 602 j39) fun j40 =>
  Option.bind (f_X6_takeKnown F S35 p0 j40) fun z41 => lt z41.1 fun r43 => lt z41.2 fun S42 =>
  if r43 = ((-1)) then
  (some (0, S42))
  else
  (Option.bind (f_X6_take F S42 p0 9) fun z46 => lt z46.1 fun r48 => lt z46.2 fun S47 =>
  if ¬ r48 = 0 then
  (Option.bind (f_X6_takeNumber F S47 p0 ((1 : Int32)) ((99999 : Int32))) fun z51 => lt z51.1 fun r53 => lt z51.2 fun S52 =>
  if r53 = ((-1)) then
  (some (0, S52))
  else
  (Option.bind (f_X6_takeSymbol F S52 p0 ((59 : Int32))) fun z56 => lt z56.1 fun r58 => lt z56.2 fun S57 =>
  if ¬ r58 = 0 then
  (Option.bind (sr S57 501 p0) fun j61 =>
  Option.bind (f_X7_addUser F S57 j61 r31 r43 r53) fun S63 =>
  some (1, S63))
  else
  (some (0, S57))))
  else
  (some (0, S47))))
  else
  (some (0, S35))))
  else
  (f_X6_userStatement_L26 F S14 p0))
def f_X10_at (F : Nat) (S0 : St) (p0 : Nat) (p1 : Int32) : Option (Int32 × St) :=
  if p1 < 0 then
  (some ((-1), S0))
  else
  (if (nI (ln S0 p0)) ≤ p1 then
  (some ((-1), S0))
  else
  (cki p1 (ln S0 p0) <|
  some (ai S0 p0 (Int32.toNatClampNeg p1), S0)))
def f_X6_takeMember_L81 (F : Nat) (S0 : St) (v0 : Nat) (v1 : Int32) (v2 : Int32) : Option (Int32 × St) :=
  Option.bind (f_X6_nextToken F S0 v0) fun S2 =>
  if ¬ v1 = ((-1)) then
  (some (1 <<< (v1 &&& 31), S2))
  else
  (Option.bind (sr S2 501 v0) fun j6 =>
  Option.bind (sr S2 610 j6) fun j7 =>
  Option.bind (f_X10_at F S2 j7 v2) fun z8 => lt z8.1 fun r10 => lt z8.2 fun S9 =>
  some (r10, S9))
def f_X6_takeMember_L75 (F : Nat) (S0 : St) (s0 : Int32) (s1 : Nat) : Option (Int32 × St) :=
  Option.bind (f_X6_fail F S0 s1 s0) fun z23 => lt z23.1 fun r25 => lt z23.2 fun S24 =>
  some (0, S24)
def f_X6_takeMember_L51 (F : Nat) (S0 : St) (v0 : Nat) (v1 : Int32) (s0 : Int32) : Option (Int32 × St) :=
  if ¬ v1 = ((-1)) then
  (f_X6_takeMember_L81 F S0 v0 v1 s0)
  else
  (if ¬ s0 = ((-1)) then
  (f_X6_takeMember_L81 F S0 v0 v1 s0)
  else
  (Option.bind (f_X6_isName F S0 v0) fun z33 => lt z33.1 fun r35 => lt z33.2 fun S34 =>
  if r35 = 0 then
  (f_X6_takeMember_L75 F S34 1 v0)
  else
  (f_X6_takeMember_L75 F S34 3 v0)))
def f_X6_takeMember_L25 (F : Nat) (S0 : St) (v0 : Nat) (s0 : Int32) : Option (Int32 × St) :=
  Option.bind (f_X6_isName F S0 v0) fun z45 => lt z45.1 fun r47 => lt z45.2 fun S46 =>
  if r47 = 0 then
  (f_X6_takeMember_L51 F S46 v0 s0 ((-1)))
  else
  (Option.bind (sr S46 501 v0) fun j50 =>
  Option.bind (sr S46 609 j50) fun j51 =>
  Option.bind (f_X5_numberOf F S46 j51 (sl S46 507 v0)) fun z52 => lt z52.1 fun r54 => lt z52.2 fun S53 =>
  f_X6_takeMember_L51 F S53 v0 s0 r54)
def f_X6_takeMember (F : Nat) (S0 : St) (p0 : Nat) : Option (Int32 × St) :=
  Option.bind (f_X6_isName F S0 p0) fun z67 => lt z67.1 fun r69 => lt z67.2 fun S68 =>
  if r69 = 0 then
  (f_X6_takeMember_L25 F S68 p0 ((-1)))
  else
  (Option.bind (sr S68 501 p0) fun j72 =>
  Option.bind (sr S68 606 j72) fun j73 =>
  Option.bind (f_X5_numberOf F S68 j73 (sl S68 507 p0)) fun z74 => lt z74.1 fun r76 => lt z74.2 fun S75 =>
  f_X6_takeMember_L25 F S75 p0 r76)
def f_X7_addGroup (F : Nat) (S0 : St) (p0 : Nat) (p1 : Int64) (p2 : Int32) : Option (St) :=
  Option.bind (sr S0 610 p0) fun j1 =>
  Option.bind (sr S0 609 p0) fun j2 =>
  Option.bind (f_X5_add F S0 j2 p1) fun z3 => lt z3.1 fun r5 => lt z3.2 fun S4 =>
  Option.bind (f_X10_put F S4 j1 r5 p2) fun S8 =>
  some S8
def f_X6_groupStatement_L126 (F : Nat) (S0 : St) (v0 : Nat) (v1 : Int64) (v3 : Int32) : Option (Int32 × St) :=
  Option.bind (f_X6_takeSymbol F S0 v0 ((59 : Int32))) fun z1 => lt z1.1 fun r3 => lt z1.2 fun S2 =>
  if ¬ r3 = 0 then
  (Option.bind (sr S2 501 v0) fun j6 =>
  Option.bind (f_X7_addGroup F S2 j6 v1 v3) fun S8 =>
  some (1, S8))
  else
  (some (0, S2))
def f_X6_groupStatement_L77 (F : Nat) : Nat → St → Nat → Int64 → Int32 → Int32 → Option (Int32 × St)
  | 0, _, _, _, _, _ => none
  | fu + 1, S0, v0, v1, v3, v4 =>
    Option.bind (sr S0 500 v0) fun j21 =>
    if (si S0 1 j21) ≤ v4 then
    (f_X6_groupStatement_L126 F S0 v0 v1 v3)
    else
    (Option.bind (f_X6_isSymbol F S0 v0 ((44 : Int32))) fun z23 => lt z23.1 fun r25 => lt z23.2 fun S24 =>
    if r25 = 0 then
    (f_X6_groupStatement_L126 F S24 v0 v1 v3)
    else
    (Option.bind (f_X6_nextToken F S24 v0) fun S29 =>
    Option.bind (f_X6_takeMember F S29 v0) fun z32 => lt z32.1 fun r34 => lt z32.2 fun S33 =>
    if ¬ r34 = 0 then
    (lt (v3 ||| r34) fun x37 =>
    lt (v4 + 1) fun x38 =>
    (fun a0 a1 a2 a3 a4 => f_X6_groupStatement_L77 F fu a0 a1 a2 a3 a4) S33 v0 v1 x37 x38)
    else
    (some (0, S33))))
def f_X6_groupStatement_L26 (F : Nat) (S0 : St) (v0 : Nat) : Option (Int32 × St) :=
  Option.bind (f_X6_fail F S0 v0 ((4 : Int32))) fun z57 => lt z57.1 fun r59 => lt z57.2 fun S58 =>
  ck (r59 = 0 ∨ r59 = 1) <| some (r59, S58)
def f_X6_groupStatement (F : Nat) (S0 : St) (p0 : Nat) : Option (Int32 × St) :=
  Option.bind (sr S0 501 p0) fun j67 =>
  Option.bind (sr S0 609 j67) fun j68 =>
  Option.bind (f_X5_isFull F S0 j68) fun z69 => lt z69.1 fun r71 => lt z69.2 fun S70 =>
  if ¬ r71 = 0 then
  (f_X6_groupStatement_L26 F S70 p0)
  else
  (Option.bind (sr S70 501 p0) fun j74 =>
  Option.bind (sr S70 606 j74) fun j75 =>
  if ¬ (si S70 401 j75) = 0 then
  (Option.bind (f_X6_nextToken F S70 p0) fun S78 =>
  Option.bind (sr S78 501 p0) fun j81 =>
  Option.bind (sr S78 606 j81) fun j82 =>
  Option.bind (sr S78 501 p0) fun j83 =>
  Option.bind (sr S78 609 j83) fun j84 =>
  Option.bind (f_X6_takeNewName F S78 p0 j82 j84) fun z85 => lt z85.1 fun r87 => lt z85.2 fun S86 =>
  if ¬ (lg_cmp r87 0) = 0 then
  (Option.bind (f_X6_takeMember F S86 p0) fun z90 => lt z90.1 fun r92 => lt z90.2 fun S91 =>
  if ¬ r92 = 0 then
  (f_X6_groupStatement_L77 F F S91 p0 r87 r92 0)
  else
  (some (0, S91)))
  else
  (some (0, S86)))
  else
  (f_X6_groupStatement_L26 F S70 p0))
def f_X6_takeWord_L19 (F : Nat) (S0 : St) (v0 : Nat) : Option (Int64 × St) :=
  Option.bind (f_X6_fail F S0 v0 ((1 : Int32))) fun z1 => lt z1.1 fun r3 => lt z1.2 fun S2 =>
  some (0, S2)
def f_X6_takeWord (F : Nat) (S0 : St) (p0 : Nat) : Option (Int64 × St) :=
  if ¬ (si S0 506 p0) = 1 then
  (f_X6_takeWord_L19 F S0 p0)
  else
  (if ¬ (lg_cmp (sl S0 507 p0) ((-1))) = 0 then
  (lt (sl S0 507 p0) fun x11 =>
  Option.bind (f_X6_nextToken F S0 p0) fun S13 =>
  some (x11, S13))
  else
  (f_X6_takeWord_L19 F S0 p0))
def f_X7_addHold (F : Nat) (S0 : St) (p0 : Nat) (p1 : Int64) (p2 : Int32) (p3 : Int32) (p4 : Int32) (p5 : Int64) : Option (St) :=
  Option.bind (sr S0 611 p0) fun j1 =>
  Option.bind (f_X5_add F S0 j1 p1) fun z2 => lt z2.1 fun r4 => lt z2.2 fun S3 =>
  Option.bind (sr S3 612 p0) fun j6 =>
  Option.bind (f_X10_put F S3 j6 r4 p2) fun S8 =>
  Option.bind (sr S8 613 p0) fun j11 =>
  Option.bind (f_X10_put F S8 j11 r4 p3) fun S13 =>
  Option.bind (sr S13 614 p0) fun j16 =>
  Option.bind (f_X10_put F S13 j16 r4 p4) fun S18 =>
  if r4 < 0 then
  (some S18)
  else
  (Option.bind (sr S18 615 p0) fun j22 =>
  if (nI (ln S18 j22)) ≤ r4 then
  (some S18)
  else
  (Option.bind (sr S18 615 p0) fun j24 =>
  cki r4 (ln S18 j24) <|
  lt (ual S18 j24 (Int32.toNatClampNeg r4) p5) fun S26 =>
  some S26))
def f_X6_holdStatement_L192 (F : Nat) (S0 : St) (v0 : Nat) (v1 : Int64) (v3 : Int32) (v4 : Int32) (v5 : Int32) (v6 : Int64) : Option (Int32 × St) :=
  Option.bind (f_X6_takeSymbol F S0 v0 ((59 : Int32))) fun z1 => lt z1.1 fun r3 => lt z1.2 fun S2 =>
  if ¬ r3 = 0 then
  (Option.bind (sr S2 501 v0) fun j6 =>
  Option.bind (f_X7_addHold F S2 j6 v1 v3 v4 v5 v6) fun S8 =>
  some (1, S8))
  else
  (some (0, S2))
def f_X6_holdStatement_L160 (F : Nat) (S0 : St) (v0 : Nat) (v1 : Int64) (v3 : Int32) (v4 : Int32) (v5 : Int32) : Option (Int32 × St) :=
  ck ((sr S0 508 v0).getD 0 < 15) <|
  if ¬ (sr S0 508 v0) = some 14 then
  (f_X6_holdStatement_L192 F S0 v0 v1 v3 v4 v5 0)
  else
  (Option.bind (f_X6_nextToken F S0 v0) fun S24 =>
  Option.bind (f_X6_takeWord F S24 v0) fun z27 => lt z27.1 fun r29 => lt z27.2 fun S28 =>
  if ¬ (lg_cmp r29 0) = 0 then
  (f_X6_holdStatement_L192 F S28 v0 v1 v3 v4 v5 r29)
  else
  (some (0, S28)))
def f_X6_holdStatement_L26 (F : Nat) (S0 : St) (v0 : Nat) : Option (Int32 × St) :=
  Option.bind (f_X6_fail F S0 v0 ((4 : Int32))) fun z43 => lt z43.1 fun r45 => lt z43.2 fun S44 =>
  ck (r45 = 0 ∨ r45 = 1) <| some (r45, S44)
def f_X6_holdStatement (F : Nat) (S0 : St) (p0 : Nat) : Option (Int32 × St) :=
  Option.bind (sr S0 501 p0) fun j53 =>
  Option.bind (sr S0 611 j53) fun j54 =>
  Option.bind (f_X5_isFull F S0 j54) fun z55 => lt z55.1 fun r57 => lt z55.2 fun S56 =>
  if ¬ r57 = 0 then
  (f_X6_holdStatement_L26 F S56 p0)
  else
  (Option.bind (sr S56 501 p0) fun j60 =>
  Option.bind (sr S56 606 j60) fun j61 =>
  if ¬ (si S56 401 j61) = 0 then
  (Option.bind (f_X6_nextToken F S56 p0) fun S64 =>
  Option.bind (sr S64 501 p0) fun j67 =>
  Option.bind (sr S64 611 j67) fun j68 =>
  Option.bind (sr S64 501 p0) fun j69 =>
  Option.bind (sr S64 611 j69) fun j70 =>
  Option.bind (f_X6_takeNewName F S64 p0 j68 j70) fun z71 => lt z71.1 fun r73 => lt z71.2 fun S72 =>
  if (lg_cmp r73 0) = 0 then
  (some (0, S72))
  else
  (Option.bind (f_X6_take F S72 p0 8) fun z76 => lt z76.1 fun r78 => lt z76.2 fun S77 =>
  if ¬ r78 = 0 then
  (Option.bind (sr S77 501 p0) fun j81 =>
  Option.bind (sr S77 606 j81) fun j82 =>
  Option.bind (f_X6_takeKnown F S77 p0 j82) fun z83 => lt z83.1 fun r85 => lt z83.2 fun S84 =>
  if ¬ r85 = ((-1)) then
  (ck ((sr S84 508 p0).getD 0 < 15) <|
  if ¬ (sr S84 508 p0) = some 12 then
  (f_X6_holdStatement_L160 F S84 p0 r73 r85 0 1000000000)
  else
  (Option.bind (f_X6_nextToken F S84 p0) fun S91 =>
  Option.bind (f_X6_takeNumber F S91 p0 ((0 : Int32)) ((9999 : Int32))) fun z94 => lt z94.1 fun r96 => lt z94.2 fun S95 =>
  if r96 = ((-1)) then
  (some (0, S95))
  else
  (Option.bind (f_X6_take F S95 p0 13) fun z99 => lt z99.1 fun r101 => lt z99.2 fun S100 =>
  if ¬ r101 = 0 then
  (Option.bind (f_X6_takeNumber F S100 p0 r96 ((9999 : Int32))) fun z104 => lt z104.1 fun r106 => lt z104.2 fun S105 =>
  if ¬ r106 = ((-1)) then
  (f_X6_holdStatement_L160 F S105 p0 r73 r85 r96 r106)
  else
  (some (0, S105)))
  else
  (some (0, S100)))))
  else
  (some (0, S84)))
  else
  (some (0, S77))))
  else
  (f_X6_holdStatement_L26 F S56 p0))
def f_X6_parse_L111 (F : Nat) (k11 : St → Nat → Int32 → Int32 → Option (Int32 × St)) (S0 : St) (v0 : Nat) (v1 : Int32) (v2 : Int32) : Option (Int32 × St) :=
  lt (v2 + 1) fun x1 =>
  k11 S0 v0 v1 x1
def f_X6_parse_L11 (F : Nat) : Nat → St → Nat → Int32 → Int32 → Option (Int32 × St)
  | 0, _, _, _, _ => none
  | fu + 1, S0, v0, v1, v2 =>
    Option.bind (sr S0 500 v0) fun j3 =>
    if (si S0 1 j3) ≤ v2 then
    (ck (v1 = 0 ∨ v1 = 1) <| some (v1, S0))
    else
    (if v1 = 0 then
    (ck (v1 = 0 ∨ v1 = 1) <| some (v1, S0))
    else
    (if (si S0 506 v0) = 0 then
    (ck (v1 = 0 ∨ v1 = 1) <| some (v1, S0))
    else
    (ck ((sr S0 508 v0).getD 0 < 15) <|
    if ¬ (sr S0 508 v0) = some 3 then
    (ck ((sr S0 508 v0).getD 0 < 15) <|
    if ¬ (sr S0 508 v0) = some 8 then
    (ck ((sr S0 508 v0).getD 0 < 15) <|
    if ¬ (sr S0 508 v0) = some 10 then
    (ck ((sr S0 508 v0).getD 0 < 15) <|
    if ¬ (sr S0 508 v0) = some 11 then
    (Option.bind (f_X6_fail F S0 v0 ((1 : Int32))) fun z18 => lt z18.1 fun r20 => lt z18.2 fun S19 =>
    f_X6_parse_L111 F (fun a0 a1 a2 a3 => f_X6_parse_L11 F fu a0 a1 a2 a3) S19 v0 r20 v2)
    else
    (Option.bind (f_X6_holdStatement F S0 v0) fun z22 => lt z22.1 fun r24 => lt z22.2 fun S23 =>
    f_X6_parse_L111 F (fun a0 a1 a2 a3 => f_X6_parse_L11 F fu a0 a1 a2 a3) S23 v0 r24 v2))
    else
    (Option.bind (f_X6_groupStatement F S0 v0) fun z26 => lt z26.1 fun r28 => lt z26.2 fun S27 =>
    f_X6_parse_L111 F (fun a0 a1 a2 a3 => f_X6_parse_L11 F fu a0 a1 a2 a3) S27 v0 r28 v2))
    else
    (Option.bind (f_X6_userStatement F S0 v0) fun z30 => lt z30.1 fun r32 => lt z30.2 fun S31 =>
    f_X6_parse_L111 F (fun a0 a1 a2 a3 => f_X6_parse_L11 F fu a0 a1 a2 a3) S31 v0 r32 v2))
    else
    (Option.bind (f_X6_classStatement F S0 v0) fun z34 => lt z34.1 fun r36 => lt z34.2 fun S35 =>
    f_X6_parse_L111 F (fun a0 a1 a2 a3 => f_X6_parse_L11 F fu a0 a1 a2 a3) S35 v0 r36 v2))))
def f_X6_parse (F : Nat) (S0 : St) (p0 : Nat) : Option (Int32 × St) :=
  Option.bind (f_X6_nextToken F S0 p0) fun S74 =>
  Option.bind (f_X6_spoolStatement F S74 p0) fun z77 => lt z77.1 fun r79 => lt z77.2 fun S78 =>
  f_X6_parse_L11 F F S78 p0 r79 0
def f_X10_pastAt (F : Nat) (S0 : St) (p0 : Nat) (p1 : Int32) : Option (Option Nat × St) :=
  lt (((si S0 908 p0) + p1) - ((si S0 908 p0) + p1) / 6 * 6) fun x1 =>
  if x1 < 0 then
  (some (none, S0))
  else
  (Option.bind (sr S0 907 p0) fun j3 =>
  if (nI (ln S0 j3)) ≤ x1 then
  (some (none, S0))
  else
  (Option.bind (sr S0 907 p0) fun j5 =>
  cki x1 (ln S0 j5) <|
  os (ar S0 j5 (Int32.toNatClampNeg x1)) (
  some (none, S0)) (fun j7 =>
  some ((some j7), S0))))
def f_X10_copyRow (F : Nat) (S0 : St) (p0 : Nat) (p1 : Nat) : Option (St) :=
  ck (¬ (if (nI (ln S0 p1)) < (nI (ln S0 p0)) then (nI (ln S0 p1)) else (nI (ln S0 p0))) < 0 ∧ Int32.toNatClampNeg (if (nI (ln S0 p1)) < (nI (ln S0 p0)) then (nI (ln S0 p1)) else (nI (ln S0 p0))) ≤ ln S0 p0 ∧ Int32.toNatClampNeg (if (nI (ln S0 p1)) < (nI (ln S0 p0)) then (nI (ln S0 p1)) else (nI (ln S0 p0))) ≤ ln S0 p1) <|
  lt (sai S0 p1 (va_cpy (ai S0 p0) (ai S0 p1) 0 0 (Int32.toNatClampNeg (if (nI (ln S0 p1)) < (nI (ln S0 p0)) then (nI (ln S0 p1)) else (nI (ln S0 p0)))))) fun S2 =>
  some S2
def f_X9_copyFrom_L62 (F : Nat) (S0 : St) (v0 : Nat) (v1 : Nat) : Option (St) :=
  Option.bind (sr S0 804 v1) fun j1 =>
  Option.bind (sr S0 804 v0) fun j2 =>
  Option.bind (f_X10_copyRow F S0 j1 j2) fun S4 =>
  Option.bind (sr S4 805 v1) fun j7 =>
  Option.bind (sr S4 805 v0) fun j8 =>
  Option.bind (f_X10_copyRow F S4 j7 j8) fun S10 =>
  Option.bind (sr S10 806 v1) fun j13 =>
  Option.bind (sr S10 806 v0) fun j14 =>
  Option.bind (f_X10_copyRow F S10 j13 j14) fun S16 =>
  some S16
def f_X9_copyFrom_L26 (F : Nat) : Nat → St → Nat → Nat → Int32 → Option (St)
  | 0, _, _, _, _ => none
  | fu + 1, S0, v0, v1, v2 =>
    Option.bind (sr S0 803 v0) fun j37 =>
    if (nI (ln S0 j37)) ≤ v2 then
    (f_X9_copyFrom_L62 F S0 v0 v1)
    else
    (Option.bind (sr S0 803 v1) fun j39 =>
    if (nI (ln S0 j39)) ≤ v2 then
    (f_X9_copyFrom_L62 F S0 v0 v1)
    else
    (Option.bind (sr S0 803 v0) fun j41 =>
    Option.bind (sr S0 803 v1) fun j42 =>
    cki v2 (ln S0 j42) <|
    os (ar S0 j42 (Int32.toNatClampNeg v2)) (
    cki v2 (ln S0 j41) <|
    lt (uar S0 j41 (Int32.toNatClampNeg v2) none) fun S46 =>
    lt (v2 + 1) fun x47 =>
    (fun a0 a1 a2 a3 => f_X9_copyFrom_L26 F fu a0 a1 a2 a3) S46 v0 v1 x47) (fun j44 =>
    cki v2 (ln S0 j41) <|
    lt (uar S0 j41 (Int32.toNatClampNeg v2) (some j44)) fun S49 =>
    lt (v2 + 1) fun x50 =>
    (fun a0 a1 a2 a3 => f_X9_copyFrom_L26 F fu a0 a1 a2 a3) S49 v0 v1 x50)))
def f_X9_copyFrom (F : Nat) (S0 : St) (p0 : Nat) (p1 : Nat) : Option (St) :=
  lt (ui S0 800 p0 (si S0 800 p1)) fun S65 =>
  lt (ui S65 801 p0 (si S65 801 p1)) fun S66 =>
  lt (ui S66 802 p0 (si S66 802 p1)) fun S67 =>
  f_X9_copyFrom_L26 F F S67 p0 p1 0
def f_X2_copyFrom (F : Nat) (S0 : St) (p0 : Nat) (p1 : Nat) : Option (St) :=
  Option.bind (sr S0 200 p1) fun j1 =>
  Option.bind (sr S0 200 p0) fun j2 =>
  Option.bind (f_X10_copyRow F S0 j1 j2) fun S4 =>
  Option.bind (sr S4 201 p1) fun j7 =>
  Option.bind (sr S4 201 p0) fun j8 =>
  Option.bind (f_X10_copyRow F S4 j7 j8) fun S10 =>
  Option.bind (sr S10 202 p1) fun j13 =>
  Option.bind (sr S10 202 p0) fun j14 =>
  Option.bind (f_X10_copyRow F S10 j13 j14) fun S16 =>
  lt (ui S16 203 p0 (si S16 203 p1)) fun S19 =>
  lt (ui S19 204 p0 (si S19 204 p1)) fun S20 =>
  some S20
def f_X8_copyFrom_L89 (F : Nat) (S0 : St) (v0 : Nat) (v1 : Nat) : Option (St) :=
  Option.bind (sr S0 707 v1) fun j1 =>
  Option.bind (sr S0 707 v0) fun j2 =>
  Option.bind (f_X10_copyRow F S0 j1 j2) fun S4 =>
  Option.bind (sr S4 708 v1) fun j7 =>
  Option.bind (sr S4 708 v0) fun j8 =>
  Option.bind (f_X10_copyRow F S4 j7 j8) fun S10 =>
  Option.bind (sr S10 709 v1) fun j13 =>
  Option.bind (sr S10 709 v0) fun j14 =>
  Option.bind (f_X10_copyRow F S10 j13 j14) fun S16 =>
  Option.bind (sr S16 710 v0) fun j19 =>
  Option.bind (sr S16 710 v1) fun j20 =>
  Option.bind (f_X9_copyFrom F S16 j19 j20) fun S22 =>
  Option.bind (sr S22 711 v0) fun j25 =>
  Option.bind (sr S22 711 v1) fun j26 =>
  Option.bind (f_X2_copyFrom F S22 j25 j26) fun S28 =>
  some S28
def f_X8_copyFrom_L53 (F : Nat) : Nat → St → Nat → Nat → Int32 → Option (St)
  | 0, _, _, _, _ => none
  | fu + 1, S0, v0, v1, v2 =>
    Option.bind (sr S0 706 v0) fun j61 =>
    if (nI (ln S0 j61)) ≤ v2 then
    (f_X8_copyFrom_L89 F S0 v0 v1)
    else
    (Option.bind (sr S0 706 v1) fun j63 =>
    if (nI (ln S0 j63)) ≤ v2 then
    (f_X8_copyFrom_L89 F S0 v0 v1)
    else
    (Option.bind (sr S0 706 v0) fun j65 =>
    Option.bind (sr S0 706 v1) fun j66 =>
    cki v2 (ln S0 j66) <|
    os (ar S0 j66 (Int32.toNatClampNeg v2)) (
    cki v2 (ln S0 j65) <|
    lt (uar S0 j65 (Int32.toNatClampNeg v2) none) fun S70 =>
    lt (v2 + 1) fun x71 =>
    (fun a0 a1 a2 a3 => f_X8_copyFrom_L53 F fu a0 a1 a2 a3) S70 v0 v1 x71) (fun j68 =>
    cki v2 (ln S0 j65) <|
    lt (uar S0 j65 (Int32.toNatClampNeg v2) (some j68)) fun S73 =>
    lt (v2 + 1) fun x74 =>
    (fun a0 a1 a2 a3 => f_X8_copyFrom_L53 F fu a0 a1 a2 a3) S73 v0 v1 x74)))
def f_X8_copyFrom (F : Nat) (S0 : St) (p0 : Nat) (p1 : Nat) : Option (St) :=
  Option.bind (sr S0 700 p1) fun j89 =>
  lt (ur S0 700 p0 (some j89)) fun S90 =>
  lt (ui S90 701 p0 (si S90 701 p1)) fun S91 =>
  lt (ui S91 702 p0 (si S91 702 p1)) fun S92 =>
  lt (ui S92 703 p0 (si S92 703 p1)) fun S93 =>
  Option.bind (sr S93 704 p1) fun j94 =>
  Option.bind (sr S93 704 p0) fun j95 =>
  Option.bind (f_X10_copyRow F S93 j94 j95) fun S97 =>
  lt (ui S97 705 p0 (si S97 705 p1)) fun S100 =>
  f_X8_copyFrom_L53 F F S100 p0 p1 0
def f_X10_remember_L32 (F : Nat) (S0 : St) (v0 : Nat) : Option (St) :=
  Option.bind (f_X10_pastAt F S0 v0 (si S0 909 v0)) fun z1 => lt z1.1 fun r3 => lt z1.2 fun S2 =>
  os r3 (
  some S2) (fun j5 =>
  Option.bind (sr S2 905 v0) fun j6 =>
  Option.bind (f_X8_copyFrom F S2 j5 j6) fun S8 =>
  lt (ui S8 909 v0 ((si S8 909 v0) + 1)) fun S11 =>
  some S11)
def f_X10_remember (F : Nat) (S0 : St) (p0 : Nat) : Option (St) :=
  if (si S0 909 p0) < 6 then
  (f_X10_remember_L32 F S0 p0)
  else
  (lt (ui S0 908 p0 (((si S0 908 p0) + 1) - ((si S0 908 p0) + 1) / 6 * 6)) fun S24 =>
  lt (ui S24 909 p0 ((si S24 909 p0) - 1)) fun S25 =>
  f_X10_remember_L32 F S25 p0)
def f_X7_allHolds (F : Nat) (S0 : St) (p0 : Nat) : Option (Int32 × St) :=
  Option.bind (sr S0 611 p0) fun j1 =>
  some ((1 <<< ((si S0 401 j1) &&& 31)) - 1, S0)
def f_X9_clear (F : Nat) (S0 : St) (p0 : Nat) : Option (St) :=
  lt (ui S0 800 p0 0) fun S1 =>
  lt (ui S1 801 p0 0) fun S2 =>
  lt (ui S2 802 p0 0) fun S3 =>
  some S3
def f_X2_clear (F : Nat) (S0 : St) (p0 : Nat) : Option (St) :=
  lt (ui S0 203 p0 0) fun S1 =>
  lt (ui S1 204 p0 0) fun S2 =>
  some S2
def f_X8_startWith (F : Nat) (S0 : St) (p0 : Nat) (p1 : Nat) : Option (St) :=
  lt (ur S0 700 p0 (some p1)) fun S1 =>
  lt (ui S1 701 p0 0) fun S2 =>
  lt (ui S2 702 p0 0) fun S3 =>
  Option.bind (f_X7_allHolds F S3 p1) fun z4 => lt z4.1 fun r6 => lt z4.2 fun S5 =>
  lt (ui S5 703 p0 r6) fun S8 =>
  Option.bind (sr S8 608 p1) fun j9 =>
  Option.bind (sr S8 704 p0) fun j10 =>
  Option.bind (f_X10_copyRow F S8 j9 j10) fun S12 =>
  lt (ui S12 705 p0 0) fun S15 =>
  Option.bind (sr S15 710 p0) fun j16 =>
  Option.bind (f_X9_clear F S15 j16) fun S18 =>
  Option.bind (sr S18 711 p0) fun j21 =>
  Option.bind (f_X2_clear F S18 j21) fun S23 =>
  some S23
def f_X10_load (F : Nat) (S0 : St) (n : Nat) (p0 : Nat) : Option (Int32 × St × Nat) :=
  lt (nob S0 n) fun S4 => lt (n + 1) fun n5 =>
  Option.bind (sr S4 900 p0) fun j10 =>
  Option.bind (f_X6_init F S4 n5 n j10) fun z11 => lt z11.1 fun S12 => lt z11.2 fun n14 =>
  Option.bind (f_X6_parse F S12 n) fun z23 => lt z23.1 fun r25 => lt z23.2 fun S24 =>
  Option.bind (sr S24 900 p0) fun j27 =>
  Option.bind (f_X0_cutTo F S24 j27 ((0 : Int32))) fun S29 =>
  lt (ui S29 903 p0 (si S29 502 n)) fun S32 =>
  lt (ui S32 904 p0 (si S32 503 n)) fun S33 =>
  if ¬ r25 = 0 then
  (Option.bind (f_X10_remember F S33 p0) fun S36 =>
  Option.bind (sr S36 905 p0) fun j39 =>
  Option.bind (sr S36 501 n) fun j40 =>
  Option.bind (f_X8_startWith F S36 j39 j40) fun S42 =>
  Option.bind (sr S42 905 p0) fun j45 =>
  Option.bind (sr S42 700 j45) fun j46 =>
  Option.bind (sr S42 606 j46) fun j47 =>
  some (si S42 401 j47, S42, n14))
  else
  (some ((-4), S33, n14))
def f_X10_errorCode (F : Nat) (S0 : St) (p0 : Nat) : Option (Int32 × St) :=
  some (si S0 903 p0, S0)
def f_X10_errorPosition (F : Nat) (S0 : St) (p0 : Nat) : Option (Int32 × St) :=
  some (si S0 904 p0, S0)
def f_X10_needKind_L9 (F : Nat) (S0 : St) : Option ((Nat ⊕ Unit) × St) :=
  some (.inl 2, S0)
def f_X10_needKind (F : Nat) (S0 : St) (p0 : Int32) : Option ((Nat ⊕ Unit) × St) :=
  if p0 < 0 then
  (f_X10_needKind_L9 F S0)
  else
  (if p0 ≤ 3 then
  (some (.inr (), S0))
  else
  (f_X10_needKind_L9 F S0))
def f_X7_namesOf (F : Nat) (S0 : St) (p0 : Nat) (p1 : Int32) : Option (Option Nat × St) :=
  if p1 = 0 then
  (Option.bind (sr S0 602 p0) fun j2 =>
  some ((some j2), S0))
  else
  (if p1 = 1 then
  (Option.bind (sr S0 606 p0) fun j4 =>
  some ((some j4), S0))
  else
  (if p1 = 2 then
  (Option.bind (sr S0 609 p0) fun j6 =>
  some ((some j6), S0))
  else
  (Option.bind (sr S0 611 p0) fun j7 =>
  some ((some j7), S0))))
def f_X10_count (F : Nat) (S0 : St) (p0 : Nat) (p1 : Int32) : Option ((Nat ⊕ Int32) × St) :=
  Option.bind (f_X10_needKind F S0 p1) fun z1 => lt z1.2 fun S2 =>
  sm z1.1 (fun x => some (.inl x, S2)) (fun r3 =>
  Option.bind (sr S2 905 p0) fun j5 =>
  Option.bind (sr S2 700 j5) fun j6 =>
  Option.bind (f_X7_namesOf F S2 j6 p1) fun z7 => lt z7.1 fun r9 => lt z7.2 fun S8 =>
  Option.bind r9 fun j11 =>
  some (.inr (si S8 401 j11), S8))
def f_X10_day (F : Nat) (S0 : St) (p0 : Nat) : Option (Int32 × St) :=
  Option.bind (sr S0 905 p0) fun j1 =>
  some (si S0 701 j1, S0)
def f_X5_has (F : Nat) (S0 : St) (p0 : Nat) (p1 : Int32) : Option (Int32 × St) :=
  if p1 < 0 then
  (some (0, S0))
  else
  (if (si S0 401 p0) ≤ p1 then
  (some (0, S0))
  else
  (some (1, S0)))
def f_X10_needUser (F : Nat) (S0 : St) (p0 : Nat) (p1 : Int32) : Option ((Nat ⊕ Unit) × St) :=
  Option.bind (sr S0 905 p0) fun j1 =>
  Option.bind (sr S0 700 j1) fun j2 =>
  Option.bind (sr S0 606 j2) fun j3 =>
  Option.bind (f_X5_has F S0 j3 p1) fun z4 => lt z4.1 fun r6 => lt z4.2 fun S5 =>
  if ¬ r6 = 0 then
  (some (.inr (), S5))
  else
  (some (.inl 4, S5))
def f_X10_needClass (F : Nat) (S0 : St) (p0 : Nat) (p1 : Int32) : Option ((Nat ⊕ Unit) × St) :=
  Option.bind (sr S0 905 p0) fun j1 =>
  Option.bind (sr S0 700 j1) fun j2 =>
  Option.bind (sr S0 602 j2) fun j3 =>
  Option.bind (f_X5_has F S0 j3 p1) fun z4 => lt z4.1 fun r6 => lt z4.2 fun S5 =>
  if ¬ r6 = 0 then
  (some (.inr (), S5))
  else
  (some (.inl 4, S5))
def f_X7_allUsers (F : Nat) (S0 : St) (p0 : Nat) : Option (Int32 × St) :=
  Option.bind (sr S0 606 p0) fun j1 =>
  some ((1 <<< ((si S0 401 j1) &&& 31)) - 1, S0)
def f_X1_cut_L108 (F : Nat) (k9 : St → Nat → Int32 → Int32 → Option (Int32 × St)) (S0 : St) (v0 : Nat) (v1 : Int32) (v2 : Int32) : Option (Int32 × St) :=
  lt (v2 + 1) fun x1 =>
  k9 S0 v0 v1 x1
def f_X1_cut_L44 (F : Nat) (k9 : St → Nat → Int32 → Int32 → Option (Int32 × St)) (S0 : St) (v0 : Nat) (v1 : Int32) (v2 : Int32) : Option (Int32 × St) :=
  if 4 ≤ (si S0 103 v0) then
  (some (0, S0))
  else
  (if (v2 - v1) < 1 then
  (some (0, S0))
  else
  (if (v2 - v1) ≤ 200 then
  (Option.bind (sr S0 101 v0) fun j6 =>
  Option.bind (f_X10_put F S0 j6 (si S0 103 v0) v1) fun S8 =>
  Option.bind (sr S8 102 v0) fun j11 =>
  Option.bind (f_X10_put F S8 j11 (si S8 103 v0) v2) fun S13 =>
  lt (ui S13 103 v0 ((si S13 103 v0) + 1)) fun S16 =>
  lt (v2 + 1) fun x17 =>
  f_X1_cut_L108 F k9 S16 v0 x17 v2)
  else
  (some (0, S0))))
def f_X1_cut_L9 (F : Nat) : Nat → St → Nat → Int32 → Int32 → Option (Int32 × St)
  | 0, _, _, _, _ => none
  | fu + 1, S0, v0, v1, v2 =>
    Option.bind (sr S0 100 v0) fun j33 =>
    if (si S0 1 j33) < v2 then
    (some (1, S0))
    else
    (Option.bind (sr S0 100 v0) fun j35 =>
    if v2 = (si S0 1 j35) then
    (f_X1_cut_L44 F (fun a0 a1 a2 a3 => f_X1_cut_L9 F fu a0 a1 a2 a3) S0 v0 v1 v2)
    else
    (Option.bind (sr S0 100 v0) fun j37 =>
    Option.bind (f_X0_byteAt F S0 j37 v2) fun z38 => lt z38.1 fun r40 => lt z38.2 fun S39 =>
    if ¬ r40 = 124 then
    (f_X1_cut_L108 F (fun a0 a1 a2 a3 => f_X1_cut_L9 F fu a0 a1 a2 a3) S39 v0 v1 v2)
    else
    (f_X1_cut_L44 F (fun a0 a1 a2 a3 => f_X1_cut_L9 F fu a0 a1 a2 a3) S39 v0 v1 v2)))
def f_X1_cut (F : Nat) (S0 : St) (p0 : Nat) : Option (Int32 × St) :=
  lt (ui S0 103 p0 0) fun S53 =>
  f_X1_cut_L9 F F S53 p0 0 0
def f_X9_isStored (F : Nat) (S0 : St) (p0 : Nat) (p1 : Int32) : Option (Int32 × St) :=
  if p1 < 0 then
  (some (0, S0))
  else
  (if (si S0 800 p0) ≤ p1 then
  (some (0, S0))
  else
  (Option.bind (sr S0 806 p0) fun j3 =>
  Option.bind (f_X10_at F S0 j3 p1) fun z4 => lt z4.1 fun r6 => lt z4.2 fun S5 =>
  if r6 = ((-2)) then
  (some (0, S5))
  else
  (some (1, S5))))
def f_X9_isDead (F : Nat) (S0 : St) (p0 : Nat) (p1 : Int32) : Option (Int32 × St) :=
  Option.bind (f_X9_isStored F S0 p0 p1) fun z1 => lt z1.1 fun r3 => lt z1.2 fun S2 =>
  if r3 = 0 then
  (some (0, S2))
  else
  (Option.bind (sr S2 806 p0) fun j6 =>
  Option.bind (f_X10_at F S2 j6 p1) fun z7 => lt z7.1 fun r9 => lt z7.2 fun S8 =>
  if r9 = ((-1)) then
  (some (0, S8))
  else
  (some (1, S8)))
def f_X9_bytesOf_L31 (F : Nat) (S0 : St) (v0 : Nat) (s0 : Option Nat) : Option (Option Nat × St) :=
  os s0 (
  Option.bind (sr S0 807 v0) fun j1 =>
  some ((some j1), S0)) (fun js0 =>
  some ((some js0), S0))
def f_X9_bytesOf_L30 (F : Nat) (S0 : St) (v0 : Nat) : Option (Option Nat × St) :=
  f_X9_bytesOf_L31 F S0 v0 none
def f_X9_bytesOf (F : Nat) (S0 : St) (p0 : Nat) (p1 : Int32) : Option (Option Nat × St) :=
  if p1 < 0 then
  (f_X9_bytesOf_L30 F S0 p0)
  else
  (if (si S0 800 p0) ≤ p1 then
  (f_X9_bytesOf_L30 F S0 p0)
  else
  (Option.bind (sr S0 803 p0) fun j5 =>
  if (nI (ln S0 j5)) ≤ p1 then
  (f_X9_bytesOf_L30 F S0 p0)
  else
  (Option.bind (sr S0 803 p0) fun j7 =>
  cki p1 (ln S0 j7) <|
  os (ar S0 j7 (Int32.toNatClampNeg p1)) (
  f_X9_bytesOf_L31 F S0 p0 none) (fun j9 =>
  f_X9_bytesOf_L31 F S0 p0 (some j9)))))
def f_X9_byteSum_L46 (F : Nat) (k4 : St → Nat → Int32 → Int32 → Int32 → Option (Int32 × St)) (S0 : St) (v0 : Nat) (v1 : Int32) (v2 : Int32) (v3 : Int32) : Option (Int32 × St) :=
  lt (v3 + 1) fun x1 =>
  k4 S0 v0 v1 v2 x1
def f_X9_byteSum_L35 (F : Nat) (k4 : St → Nat → Int32 → Int32 → Int32 → Option (Int32 × St)) (S0 : St) (v0 : Nat) (v1 : Int32) (v2 : Int32) (v3 : Int32) : Option (Int32 × St) :=
  Option.bind (f_X9_bytesOf F S0 v0 v3) fun z3 => lt z3.1 fun r5 => lt z3.2 fun S4 =>
  Option.bind r5 fun j7 =>
  lt (v2 + (si S4 1 j7)) fun x8 =>
  f_X9_byteSum_L46 F k4 S4 v0 v1 x8 v3
def f_X9_byteSum_L4 (F : Nat) : Nat → St → Nat → Int32 → Int32 → Int32 → Option (Int32 × St)
  | 0, _, _, _, _, _ => none
  | fu + 1, S0, v0, v1, v2, v3 =>
    if (si S0 800 v0) ≤ v3 then
    (some (v2, S0))
    else
    (if v1 = 0 then
    (Option.bind (f_X9_isStored F S0 v0 v3) fun z17 => lt z17.1 fun r19 => lt z17.2 fun S18 =>
    if r19 = 0 then
    (f_X9_byteSum_L46 F (fun a0 a1 a2 a3 a4 => f_X9_byteSum_L4 F fu a0 a1 a2 a3 a4) S18 v0 v1 v2 v3)
    else
    (f_X9_byteSum_L35 F (fun a0 a1 a2 a3 a4 => f_X9_byteSum_L4 F fu a0 a1 a2 a3 a4) S18 v0 v1 v2 v3))
    else
    (Option.bind (f_X9_isDead F S0 v0 v3) fun z22 => lt z22.1 fun r24 => lt z22.2 fun S23 =>
    if r24 = 0 then
    (f_X9_byteSum_L46 F (fun a0 a1 a2 a3 a4 => f_X9_byteSum_L4 F fu a0 a1 a2 a3 a4) S23 v0 v1 v2 v3)
    else
    (f_X9_byteSum_L35 F (fun a0 a1 a2 a3 a4 => f_X9_byteSum_L4 F fu a0 a1 a2 a3 a4) S23 v0 v1 v2 v3)))
def f_X9_byteSum (F : Nat) (S0 : St) (p0 : Nat) (p1 : Int32) : Option (Int32 × St) :=
  f_X9_byteSum_L4 F F S0 p0 p1 0 0
def f_X1_sizeAt (F : Nat) (S0 : St) (p0 : Nat) (p1 : Int32) : Option (Int32 × St) :=
  Option.bind (sr S0 102 p0) fun j1 =>
  Option.bind (f_X10_at F S0 j1 p1) fun z2 => lt z2.1 fun r4 => lt z2.2 fun S3 =>
  Option.bind (sr S3 101 p0) fun j6 =>
  Option.bind (f_X10_at F S3 j6 p1) fun z7 => lt z7.1 fun r9 => lt z7.2 fun S8 =>
  some (r4 - r9, S8)
def f_X1_areEqual_L17 (F : Nat) : Nat → St → Nat → Int32 → Int32 → Int32 → Option (Int32 × St)
  | 0, _, _, _, _, _ => none
  | fu + 1, S0, v0, v1, v2, v3 =>
    Option.bind (f_X1_sizeAt F S0 v0 v1) fun z1 => lt z1.1 fun r3 => lt z1.2 fun S2 =>
    if r3 ≤ v3 then
    (some (1, S2))
    else
    (Option.bind (sr S2 100 v0) fun j6 =>
    Option.bind (sr S2 101 v0) fun j7 =>
    Option.bind (f_X10_at F S2 j7 v1) fun z8 => lt z8.1 fun r10 => lt z8.2 fun S9 =>
    Option.bind (f_X0_byteAt F S9 j6 (r10 + v3)) fun z12 => lt z12.1 fun r14 => lt z12.2 fun S13 =>
    Option.bind (sr S13 100 v0) fun j16 =>
    Option.bind (sr S13 101 v0) fun j17 =>
    Option.bind (f_X10_at F S13 j17 v2) fun z18 => lt z18.1 fun r20 => lt z18.2 fun S19 =>
    Option.bind (f_X0_byteAt F S19 j16 (r20 + v3)) fun z22 => lt z22.1 fun r24 => lt z22.2 fun S23 =>
    if r14 = r24 then
    (lt (v3 + 1) fun x27 =>
    (fun a0 a1 a2 a3 a4 => f_X1_areEqual_L17 F fu a0 a1 a2 a3 a4) S23 v0 v1 v2 x27)
    else
    (some (0, S23)))
def f_X1_areEqual (F : Nat) (S0 : St) (p0 : Nat) (p1 : Int32) (p2 : Int32) : Option (Int32 × St) :=
  Option.bind (f_X1_sizeAt F S0 p0 p1) fun z55 => lt z55.1 fun r57 => lt z55.2 fun S56 =>
  Option.bind (f_X1_sizeAt F S56 p0 p2) fun z59 => lt z59.1 fun r61 => lt z59.2 fun S60 =>
  if r57 = r61 then
  (f_X1_areEqual_L17 F F S60 p0 p1 p2 0)
  else
  (some (0, S60))
def f_X1_isFirstOfItsKind_L2 (F : Nat) : Nat → St → Nat → Int32 → Int32 → Option (Int32 × St)
  | 0, _, _, _, _ => none
  | fu + 1, S0, v0, v1, v2 =>
    if v1 ≤ v2 then
    (some (1, S0))
    else
    (Option.bind (f_X1_areEqual F S0 v0 v2 v1) fun z2 => lt z2.1 fun r4 => lt z2.2 fun S3 =>
    if r4 = 0 then
    (lt (v2 + 1) fun x7 =>
    (fun a0 a1 a2 a3 => f_X1_isFirstOfItsKind_L2 F fu a0 a1 a2 a3) S3 v0 v1 x7)
    else
    (some (0, S3)))
def f_X1_isFirstOfItsKind (F : Nat) (S0 : St) (p0 : Nat) (p1 : Int32) : Option (Int32 × St) :=
  f_X1_isFirstOfItsKind_L2 F F S0 p0 p1 0
def f_X0_isRange_L15 (F : Nat) : Nat → St → Nat → Nat → Int32 → Int32 → Option (Int32 × St)
  | 0, _, _, _, _, _ => none
  | fu + 1, S0, v0, v1, v2, v4 =>
    if (si S0 1 v0) ≤ v4 then
    (some (1, S0))
    else
    (Option.bind (f_X0_byteAt F S0 v0 v4) fun z2 => lt z2.1 fun r4 => lt z2.2 fun S3 =>
    Option.bind (f_X0_byteAt F S3 v1 (v2 + v4)) fun z6 => lt z6.1 fun r8 => lt z6.2 fun S7 =>
    if r4 = r8 then
    (lt (v4 + 1) fun x11 =>
    (fun a0 a1 a2 a3 a4 => f_X0_isRange_L15 F fu a0 a1 a2 a3 a4) S7 v0 v1 v2 x11)
    else
    (some (0, S7)))
def f_X0_isRange (F : Nat) (S0 : St) (p0 : Nat) (p1 : Nat) (p2 : Int32) (p3 : Int32) : Option (Int32 × St) :=
  if (p3 - p2) = (si S0 1 p0) then
  (f_X0_isRange_L15 F F S0 p0 p1 p2 0)
  else
  (some (0, S0))
def f_X1_isEqualTo (F : Nat) (S0 : St) (p0 : Nat) (p1 : Nat) (p2 : Int32) : Option (Int32 × St) :=
  Option.bind (sr S0 100 p0) fun j1 =>
  Option.bind (sr S0 101 p0) fun j2 =>
  Option.bind (f_X10_at F S0 j2 p2) fun z3 => lt z3.1 fun r5 => lt z3.2 fun S4 =>
  Option.bind (sr S4 102 p0) fun j7 =>
  Option.bind (f_X10_at F S4 j7 p2) fun z8 => lt z8.1 fun r10 => lt z8.2 fun S9 =>
  Option.bind (f_X0_isRange F S9 p1 j1 r5 r10) fun z12 => lt z12.1 fun r14 => lt z12.2 fun S13 =>
  ck (r14 = 0 ∨ r14 = 1) <| some (r14, S13)
def f_X9_numberOf_L33 (F : Nat) (k2 : St → Nat → Nat → Int32 → Int32 → Option (Int32 × St)) (S0 : St) (v0 : Nat) (v1 : Nat) (v2 : Int32) (v3 : Int32) : Option (Int32 × St) :=
  lt (v3 + 1) fun x1 =>
  k2 S0 v0 v1 v2 x1
def f_X9_numberOf_L2 (F : Nat) : Nat → St → Nat → Nat → Int32 → Int32 → Option (Int32 × St)
  | 0, _, _, _, _, _ => none
  | fu + 1, S0, v0, v1, v2, v3 =>
    if (si S0 800 v0) ≤ v3 then
    (some ((-1), S0))
    else
    (Option.bind (f_X9_isStored F S0 v0 v3) fun z4 => lt z4.1 fun r6 => lt z4.2 fun S5 =>
    if r6 = 0 then
    (f_X9_numberOf_L33 F (fun a0 a1 a2 a3 a4 => f_X9_numberOf_L2 F fu a0 a1 a2 a3 a4) S5 v0 v1 v2 v3)
    else
    (Option.bind (f_X9_bytesOf F S5 v0 v3) fun z9 => lt z9.1 fun r11 => lt z9.2 fun S10 =>
    Option.bind r11 fun j13 =>
    Option.bind (f_X1_isEqualTo F S10 v1 j13 v2) fun z14 => lt z14.1 fun r16 => lt z14.2 fun S15 =>
    if r16 = 0 then
    (f_X9_numberOf_L33 F (fun a0 a1 a2 a3 a4 => f_X9_numberOf_L2 F fu a0 a1 a2 a3 a4) S15 v0 v1 v2 v3)
    else
    (some (v3, S15))))
def f_X9_numberOf (F : Nat) (S0 : St) (p0 : Nat) (p1 : Nat) (p2 : Int32) : Option (Int32 × St) :=
  f_X9_numberOf_L2 F F S0 p0 p1 p2 0
def f_X9_bytesWith_L42 (F : Nat) (k8 : St → Nat → Nat → Int32 → Int32 → Option (Int32 × St)) (S0 : St) (v0 : Nat) (v1 : Nat) (v2 : Int32) (v3 : Int32) : Option (Int32 × St) :=
  lt (v3 + 1) fun x1 =>
  k8 S0 v0 v1 v2 x1
def f_X9_bytesWith_L8 (F : Nat) : Nat → St → Nat → Nat → Int32 → Int32 → Option (Int32 × St)
  | 0, _, _, _, _, _ => none
  | fu + 1, S0, v0, v1, v2, v3 =>
    if (si S0 103 v1) ≤ v3 then
    (some (v2, S0))
    else
    (Option.bind (f_X1_isFirstOfItsKind F S0 v1 v3) fun z4 => lt z4.1 fun r6 => lt z4.2 fun S5 =>
    if r6 = 0 then
    (f_X9_bytesWith_L42 F (fun a0 a1 a2 a3 a4 => f_X9_bytesWith_L8 F fu a0 a1 a2 a3 a4) S5 v0 v1 v2 v3)
    else
    (Option.bind (f_X9_numberOf F S5 v0 v1 v3) fun z9 => lt z9.1 fun r11 => lt z9.2 fun S10 =>
    if ¬ r11 = ((-1)) then
    (f_X9_bytesWith_L42 F (fun a0 a1 a2 a3 a4 => f_X9_bytesWith_L8 F fu a0 a1 a2 a3 a4) S10 v0 v1 v2 v3)
    else
    (Option.bind (f_X1_sizeAt F S10 v1 v3) fun z14 => lt z14.1 fun r16 => lt z14.2 fun S15 =>
    lt (v2 + r16) fun x18 =>
    f_X9_bytesWith_L42 F (fun a0 a1 a2 a3 a4 => f_X9_bytesWith_L8 F fu a0 a1 a2 a3 a4) S15 v0 v1 x18 v3)))
def f_X9_bytesWith (F : Nat) (S0 : St) (p0 : Nat) (p1 : Nat) : Option (Int32 × St) :=
  Option.bind (f_X9_byteSum F S0 p0 ((0 : Int32))) fun z35 => lt z35.1 fun r37 => lt z35.2 fun S36 =>
  f_X9_bytesWith_L8 F F S36 p0 p1 r37 0
def f_X1_sizeOfAll_L4 (F : Nat) : Nat → St → Nat → Int32 → Int32 → Option (Int32 × St)
  | 0, _, _, _, _ => none
  | fu + 1, S0, v0, v1, v2 =>
    if (si S0 103 v0) ≤ v2 then
    (some (v1, S0))
    else
    (Option.bind (f_X1_sizeAt F S0 v0 v2) fun z2 => lt z2.1 fun r4 => lt z2.2 fun S3 =>
    lt (v1 + r4) fun x6 =>
    lt (v2 + 1) fun x7 =>
    (fun a0 a1 a2 a3 => f_X1_sizeOfAll_L4 F fu a0 a1 a2 a3) S3 v0 x6 x7)
def f_X1_sizeOfAll (F : Nat) (S0 : St) (p0 : Nat) : Option (Int32 × St) :=
  f_X1_sizeOfAll_L4 F F S0 p0 0 0
def f_X10_hasBit (F : Nat) (S0 : St) (p0 : Int32) (p1 : Int32) : Option (Int32 × St) :=
  if ((p0 >>> (p1 &&& 31)) &&& 1) = 0 then
  (some (0, S0))
  else
  (some (1, S0))
def f_X8_stateOf (F : Nat) (S0 : St) (p0 : Nat) (p1 : Int32) (p2 : Int32) : Option (Int32 × St) :=
  if p1 < 0 then
  (some ((-1), S0))
  else
  (if (si S0 705 p0) ≤ p1 then
  (some ((-1), S0))
  else
  (Option.bind (sr S0 700 p0) fun j3 =>
  Option.bind (sr S0 606 j3) fun j4 =>
  Option.bind (f_X5_has F S0 j4 p2) fun z5 => lt z5.1 fun r7 => lt z5.2 fun S6 =>
  if ¬ r7 = 0 then
  (Option.bind (sr S6 707 p0) fun j10 =>
  Option.bind (f_X10_at F S6 j10 ((p1 * 10) + p2)) fun z11 => lt z11.1 fun r13 => lt z11.2 fun S12 =>
  some (r13, S12))
  else
  (some ((-1), S6))))
def f_X8_messageAt_L41 (F : Nat) (S0 : St) (v0 : Nat) (s0 : Option Nat) : Option (Option Nat × St) :=
  os s0 (
  Option.bind (sr S0 715 v0) fun j1 =>
  some ((some j1), S0)) (fun js0 =>
  some ((some js0), S0))
def f_X8_messageAt_L26 (F : Nat) (S0 : St) (v0 : Nat) (v1 : Int32) (s0 : Int32) : Option (Option Nat × St) :=
  if s0 = 0 then
  (f_X8_messageAt_L41 F S0 v0 none)
  else
  (Option.bind (sr S0 706 v0) fun j4 =>
  cki v1 (ln S0 j4) <|
  os (ar S0 j4 (Int32.toNatClampNeg v1)) (
  f_X8_messageAt_L41 F S0 v0 none) (fun j6 =>
  f_X8_messageAt_L41 F S0 v0 (some j6)))
def f_X8_messageAt_L25 (F : Nat) (S0 : St) (v0 : Nat) (v1 : Int32) : Option (Option Nat × St) :=
  f_X8_messageAt_L26 F S0 v0 v1 0
def f_X8_messageAt (F : Nat) (S0 : St) (p0 : Nat) (p1 : Int32) : Option (Option Nat × St) :=
  if p1 < 0 then
  (f_X8_messageAt_L25 F S0 p0 p1)
  else
  (if (si S0 705 p0) ≤ p1 then
  (f_X8_messageAt_L25 F S0 p0 p1)
  else
  (Option.bind (sr S0 706 p0) fun j13 =>
  if (nI (ln S0 j13)) ≤ p1 then
  (f_X8_messageAt_L25 F S0 p0 p1)
  else
  (f_X8_messageAt_L26 F S0 p0 p1 1)))
def f_X8_usageOf_L32 (F : Nat) (k4 : St → Nat → Int32 → Int32 → Int32 → Option (Int32 × St)) (S0 : St) (v0 : Nat) (v1 : Int32) (v2 : Int32) (v3 : Int32) : Option (Int32 × St) :=
  lt (v3 + 1) fun x1 =>
  k4 S0 v0 v1 v2 x1
def f_X8_usageOf_L4 (F : Nat) : Nat → St → Nat → Int32 → Int32 → Int32 → Option (Int32 × St)
  | 0, _, _, _, _, _ => none
  | fu + 1, S0, v0, v1, v2, v3 =>
    if (si S0 705 v0) ≤ v3 then
    (some (v2, S0))
    else
    (Option.bind (f_X8_stateOf F S0 v0 v3 v1) fun z4 => lt z4.1 fun r6 => lt z4.2 fun S5 =>
    if ¬ r6 = 0 then
    (f_X8_usageOf_L32 F (fun a0 a1 a2 a3 a4 => f_X8_usageOf_L4 F fu a0 a1 a2 a3 a4) S5 v0 v1 v2 v3)
    else
    (Option.bind (f_X8_messageAt F S5 v0 v3) fun z9 => lt z9.1 fun r11 => lt z9.2 fun S10 =>
    Option.bind r11 fun j13 =>
    lt (v2 + (si S10 302 j13)) fun x14 =>
    f_X8_usageOf_L32 F (fun a0 a1 a2 a3 a4 => f_X8_usageOf_L4 F fu a0 a1 a2 a3 a4) S10 v0 v1 x14 v3))
def f_X8_usageOf (F : Nat) (S0 : St) (p0 : Nat) (p1 : Int32) : Option (Int32 × St) :=
  f_X8_usageOf_L4 F F S0 p0 p1 0 0
def f_X2_note (F : Nat) (S0 : St) (p0 : Nat) (p1 : Int32) (p2 : Int32) (p3 : Int32) : Option (St) :=
  lt (((si S0 203 p0) + (si S0 204 p0)) - ((si S0 203 p0) + (si S0 204 p0)) / 60 * 60) fun x1 =>
  Option.bind (sr S0 200 p0) fun j2 =>
  Option.bind (f_X10_put F S0 j2 x1 p1) fun S4 =>
  Option.bind (sr S4 201 p0) fun j7 =>
  Option.bind (f_X10_put F S4 j7 x1 p2) fun S9 =>
  Option.bind (sr S9 202 p0) fun j12 =>
  Option.bind (f_X10_put F S9 j12 x1 p3) fun S14 =>
  if 60 ≤ (si S14 204 p0) then
  (lt (ui S14 203 p0 (((si S14 203 p0) + 1) - ((si S14 203 p0) + 1) / 60 * 60)) fun S18 =>
  some S18)
  else
  (lt (ui S14 204 p0 ((si S14 204 p0) + 1)) fun S19 =>
  some S19)
def f_X8_bounce_L70 (F : Nat) (k5 : St → Nat → Int32 → Int32 → Int32 → Int32 → Option (Int32 × St)) (S0 : St) (v0 : Nat) (v1 : Int32) (v2 : Int32) (v3 : Int32) (v4 : Int32) : Option (Int32 × St) :=
  lt (v4 + 1) fun x1 =>
  k5 S0 v0 v1 v2 v3 x1
def f_X8_bounce_L5 (F : Nat) : Nat → St → Nat → Int32 → Int32 → Int32 → Int32 → Option (Int32 × St)
  | 0, _, _, _, _, _, _ => none
  | fu + 1, S0, v0, v1, v2, v3, v4 =>
    Option.bind (sr S0 700 v0) fun j3 =>
    Option.bind (sr S0 606 j3) fun j4 =>
    if (si S0 401 j4) ≤ v4 then
    (some (v3, S0))
    else
    (Option.bind (f_X10_hasBit F S0 v1 v4) fun z6 => lt z6.1 fun r8 => lt z6.2 fun S7 =>
    if r8 = 0 then
    (f_X8_bounce_L70 F (fun a0 a1 a2 a3 a4 a5 => f_X8_bounce_L5 F fu a0 a1 a2 a3 a4 a5) S7 v0 v1 v2 v3 v4)
    else
    (Option.bind (f_X8_usageOf F S7 v0 v4) fun z11 => lt z11.1 fun r13 => lt z11.2 fun S12 =>
    Option.bind (sr S12 704 v0) fun j15 =>
    Option.bind (f_X10_at F S12 j15 v4) fun z16 => lt z16.1 fun r18 => lt z16.2 fun S17 =>
    if (r13 + v2) ≤ r18 then
    (f_X8_bounce_L70 F (fun a0 a1 a2 a3 a4 a5 => f_X8_bounce_L5 F fu a0 a1 a2 a3 a4 a5) S17 v0 v1 v2 v3 v4)
    else
    (lt (v3 ||| (1 <<< (v4 &&& 31))) fun x21 =>
    Option.bind (sr S17 711 v0) fun j22 =>
    Option.bind (f_X2_note F S17 j22 (si S17 701 v0) ((2 : Int32)) v4) fun S24 =>
    f_X8_bounce_L70 F (fun a0 a1 a2 a3 a4 a5 => f_X8_bounce_L5 F fu a0 a1 a2 a3 a4 a5) S24 v0 v1 v2 x21 v4)))
def f_X8_bounce (F : Nat) (S0 : St) (p0 : Nat) (p1 : Int32) (p2 : Int32) : Option (Int32 × St) :=
  f_X8_bounce_L5 F F S0 p0 p1 p2 0 0
def f_X0_addRange_L3 (F : Nat) : Nat → St → Nat → Nat → Int32 → Int32 → Option (St)
  | 0, _, _, _, _, _ => none
  | fu + 1, S0, v0, v1, v3, v4 =>
    if v3 ≤ v4 then
    (some S0)
    else
    (Option.bind (f_X0_byteAt F S0 v1 v4) fun z2 => lt z2.1 fun r4 => lt z2.2 fun S3 =>
    Option.bind (f_X0_add F S3 v0 r4) fun S7 =>
    lt (v4 + 1) fun x10 =>
    (fun a0 a1 a2 a3 a4 => f_X0_addRange_L3 F fu a0 a1 a2 a3 a4) S7 v0 v1 v3 x10)
def f_X0_addRange (F : Nat) (S0 : St) (p0 : Nat) (p1 : Nat) (p2 : Int32) (p3 : Int32) : Option (St) :=
  f_X0_addRange_L3 F F S0 p0 p1 p3 p2
def f_X1_copyOfPlace (F : Nat) (S0 : St) (n : Nat) (p0 : Nat) (p1 : Int32) : Option (Option Nat × St × Nat) :=
  lt (nob S0 n) fun S4 => lt (n + 1) fun n5 =>
  Option.bind (f_X1_sizeAt F S4 p0 p1) fun z10 => lt z10.1 fun r12 => lt z10.2 fun S11 =>
  Option.bind (f_X0_init F S11 n5 n r12) fun z14 => lt z14.1 fun S15 => lt z14.2 fun n17 =>
  Option.bind (sr S15 100 p0) fun j26 =>
  Option.bind (sr S15 101 p0) fun j27 =>
  Option.bind (f_X10_at F S15 j27 p1) fun z28 => lt z28.1 fun r30 => lt z28.2 fun S29 =>
  Option.bind (sr S29 102 p0) fun j32 =>
  Option.bind (f_X10_at F S29 j32 p1) fun z33 => lt z33.1 fun r35 => lt z33.2 fun S34 =>
  Option.bind (f_X0_addRange F S34 n j26 r30 r35) fun S38 =>
  some ((some n), S38, n17)
def f_X9_numberFor_L52 (F : Nat) (S0 : St) (nL : Nat) (v0 : Nat) (v3 : Int32) (v5 : Int32) : Option (Int32 × St × Nat) :=
  Option.bind (sr S0 804 v0) fun j1 =>
  Option.bind (f_X10_put F S0 j1 v5 v3) fun S3 =>
  Option.bind (sr S3 805 v0) fun j6 =>
  Option.bind (f_X10_put F S3 j6 v5 ((0 : Int32))) fun S8 =>
  Option.bind (sr S8 806 v0) fun j11 =>
  Option.bind (f_X10_put F S8 j11 v5 (((-1) : Int32))) fun S13 =>
  lt (ui S13 800 v0 ((si S13 800 v0) + 1)) fun S16 =>
  lt (ui S16 801 v0 ((si S16 801 v0) + 1)) fun S17 =>
  some (v5, S17, nL)
def f_X9_numberFor (F : Nat) (S0 : St) (n : Nat) (p0 : Nat) (p1 : Nat) (p2 : Int32) (p3 : Int32) : Option (Int32 × St × Nat) :=
  Option.bind (f_X9_numberOf F S0 p0 p1 p2) fun z35 => lt z35.1 fun r37 => lt z35.2 fun S36 =>
  if ¬ r37 = ((-1)) then
  (some (r37, S36, n))
  else
  (Option.bind (sr S36 803 p0) fun j40 =>
  if (si S36 800 p0) < (nI (ln S36 j40)) then
  (lt (si S36 800 p0) fun x42 =>
  if x42 < 0 then
  (f_X9_numberFor_L52 F S36 n p0 p3 x42)
  else
  (Option.bind (sr S36 803 p0) fun j44 =>
  Option.bind (f_X1_copyOfPlace F S36 n p1 p2) fun z45 => lt z45.1 fun r47 => lt z45.2.1 fun S46 => lt z45.2.2 fun n48 =>
  Option.bind r47 fun j59 =>
  cki x42 (ln S46 j44) <|
  lt (uar S46 j44 (Int32.toNatClampNeg x42) (some j59)) fun S61 =>
  f_X9_numberFor_L52 F S61 n48 p0 p3 x42))
  else
  (some (r37, S36, n)))
def f_X9_addKeeper (F : Nat) (S0 : St) (p0 : Nat) (p1 : Int32) : Option (Int32 × St) :=
  Option.bind (sr S0 805 p0) fun j1 =>
  Option.bind (sr S0 805 p0) fun j2 =>
  Option.bind (f_X10_at F S0 j2 p1) fun z3 => lt z3.1 fun r5 => lt z3.2 fun S4 =>
  Option.bind (f_X10_put F S4 j1 p1 (r5 + 1)) fun S8 =>
  Option.bind (f_X9_isDead F S8 p0 p1) fun z11 => lt z11.1 fun r13 => lt z11.2 fun S12 =>
  if ¬ r13 = 0 then
  (Option.bind (sr S12 806 p0) fun j16 =>
  Option.bind (f_X10_put F S12 j16 p1 (((-1) : Int32))) fun S18 =>
  lt (ui S18 802 p0 ((si S18 802 p0) - 1)) fun S21 =>
  some (1, S21))
  else
  (some (0, S12))
def f_X7_wordOfHold (F : Nat) (S0 : St) (p0 : Nat) (p1 : Int32) : Option (Int64 × St) :=
  if p1 < 0 then
  (some (0, S0))
  else
  (Option.bind (sr S0 615 p0) fun j2 =>
  if (nI (ln S0 j2)) ≤ p1 then
  (some (0, S0))
  else
  (Option.bind (sr S0 615 p0) fun j4 =>
  cki p1 (ln S0 j4) <|
  some (al S0 j4 (Int32.toNatClampNeg p1), S0)))
def f_X0_hasWord_L50 (F : Nat) (k5 : St → Nat → Int64 → Int64 → Int32 → Option (Int32 × St)) (S0 : St) (v0 : Nat) (v1 : Int64) (v3 : Int64) (v5 : Int32) : Option (Int32 × St) :=
  lt (v5 + 1) fun x1 =>
  k5 S0 v0 v1 v3 x1
def f_X0_hasWord_L5 (F : Nat) : Nat → St → Nat → Int64 → Int64 → Int32 → Option (Int32 × St)
  | 0, _, _, _, _, _ => none
  | fu + 1, S0, v0, v1, v3, v5 =>
    if (si S0 1 v0) ≤ v5 then
    (if ¬ (lg_cmp v3 v1) = 0 then
    (some (0, S0))
    else
    (some (1, S0)))
    else
    (Option.bind (f_X0_byteAt F S0 v0 v5) fun z5 => lt z5.1 fun r7 => lt z5.2 fun S6 =>
    Option.bind (f_X10_isLetter F S6 r7) fun z9 => lt z9.1 fun r11 => lt z9.2 fun S10 =>
    if r11 = 0 then
    (if ¬ (lg_cmp v3 v1) = 0 then
    (f_X0_hasWord_L50 F (fun a0 a1 a2 a3 a4 => f_X0_hasWord_L5 F fu a0 a1 a2 a3 a4) S10 v0 v1 0 v5)
    else
    (some (1, S10)))
    else
    (Option.bind (f_X10_withLetter F S10 v3 r7) fun z15 => lt z15.1 fun r17 => lt z15.2 fun S16 =>
    f_X0_hasWord_L50 F (fun a0 a1 a2 a3 a4 => f_X0_hasWord_L5 F fu a0 a1 a2 a3 a4) S16 v0 v1 r17 v5))
def f_X0_hasWord (F : Nat) (S0 : St) (p0 : Nat) (p1 : Int64) : Option (Int32 × St) :=
  f_X0_hasWord_L5 F F S0 p0 p1 0 0
def f_X8_hasWord_L18 (F : Nat) : Nat → St → Nat → Int64 → Nat → Int32 → Int32 → Option (Int32 × St)
  | 0, _, _, _, _, _, _ => none
  | fu + 1, S0, v0, v2, v4, v5, v6 =>
    if v5 ≤ v6 then
    (some (0, S0))
    else
    (cki v6 (ln S0 v4) <|
    lt (ai S0 v4 (Int32.toNatClampNeg v6)) fun x3 =>
    Option.bind (sr S0 710 v0) fun j4 =>
    Option.bind (f_X9_bytesOf F S0 j4 x3) fun z5 => lt z5.1 fun r7 => lt z5.2 fun S6 =>
    Option.bind r7 fun j9 =>
    Option.bind (f_X0_hasWord F S6 j9 v2) fun z10 => lt z10.1 fun r12 => lt z10.2 fun S11 =>
    if r12 = 0 then
    (lt (v6 + 1) fun x15 =>
    (fun a0 a1 a2 a3 a4 a5 => f_X8_hasWord_L18 F fu a0 a1 a2 a3 a4 a5) S11 v0 v2 v4 v5 x15)
    else
    (some (1, S11)))
def f_X8_hasWord (F : Nat) (S0 : St) (p0 : Nat) (p1 : Int32) (p2 : Int64) : Option (Int32 × St) :=
  Option.bind (f_X8_messageAt F S0 p0 p1) fun z31 => lt z31.1 fun r33 => lt z31.2 fun S32 =>
  Option.bind r33 fun j35 =>
  Option.bind (sr S32 303 j35) fun j36 =>
  lt (nI (ln S32 j36)) fun x37 =>
  f_X8_hasWord_L18 F F S32 p0 p2 j36 x37 0
def f_X8_holdsAskingFor_L99 (F : Nat) (k4 : St → Nat → Int32 → Int32 → Int32 → Option (Int32 × St)) (S0 : St) (v0 : Nat) (v1 : Int32) (v2 : Int32) (v3 : Int32) : Option (Int32 × St) :=
  lt (v3 + 1) fun x1 =>
  k4 S0 v0 v1 v2 x1
def f_X8_holdsAskingFor_L93 (F : Nat) (k4 : St → Nat → Int32 → Int32 → Int32 → Option (Int32 × St)) (S0 : St) (v0 : Nat) (v1 : Int32) (v2 : Int32) (v3 : Int32) : Option (Int32 × St) :=
  lt (v2 ||| (1 <<< (v3 &&& 31))) fun x3 =>
  f_X8_holdsAskingFor_L99 F k4 S0 v0 v1 x3 v3
def f_X8_holdsAskingFor_L69 (F : Nat) (k4 : St → Nat → Int32 → Int32 → Int32 → Option (Int32 × St)) (S0 : St) (v0 : Nat) (v1 : Int32) (v2 : Int32) (v3 : Int32) (v4 : Int64) (s0 : Int32) : Option (Int32 × St) :=
  if s0 = 0 then
  (f_X8_holdsAskingFor_L99 F k4 S0 v0 v1 v2 v3)
  else
  (if (lg_cmp v4 0) = 0 then
  (f_X8_holdsAskingFor_L93 F k4 S0 v0 v1 v2 v3)
  else
  (Option.bind (f_X8_hasWord F S0 v0 v1 v4) fun z7 => lt z7.1 fun r9 => lt z7.2 fun S8 =>
  if r9 = 0 then
  (f_X8_holdsAskingFor_L99 F k4 S8 v0 v1 v2 v3)
  else
  (f_X8_holdsAskingFor_L93 F k4 S8 v0 v1 v2 v3)))
def f_X8_holdsAskingFor_L68 (F : Nat) (k4 : St → Nat → Int32 → Int32 → Int32 → Option (Int32 × St)) (S0 : St) (v0 : Nat) (v1 : Int32) (v2 : Int32) (v3 : Int32) (v4 : Int64) : Option (Int32 × St) :=
  f_X8_holdsAskingFor_L69 F k4 S0 v0 v1 v2 v3 v4 0
def f_X8_holdsAskingFor_L4 (F : Nat) : Nat → St → Nat → Int32 → Int32 → Int32 → Option (Int32 × St)
  | 0, _, _, _, _, _ => none
  | fu + 1, S0, v0, v1, v2, v3 =>
    Option.bind (sr S0 700 v0) fun j19 =>
    Option.bind (sr S0 611 j19) fun j20 =>
    if (si S0 401 j20) ≤ v3 then
    (some (v2, S0))
    else
    (Option.bind (sr S0 700 v0) fun j22 =>
    Option.bind (f_X7_wordOfHold F S0 j22 v3) fun z23 => lt z23.1 fun r25 => lt z23.2 fun S24 =>
    Option.bind (sr S24 700 v0) fun j27 =>
    Option.bind (sr S24 613 j27) fun j28 =>
    Option.bind (f_X10_at F S24 j28 v3) fun z29 => lt z29.1 fun r31 => lt z29.2 fun S30 =>
    if (si S24 701 v0) < r31 then
    (f_X8_holdsAskingFor_L68 F (fun a0 a1 a2 a3 a4 => f_X8_holdsAskingFor_L4 F fu a0 a1 a2 a3 a4) S30 v0 v1 v2 v3 r25)
    else
    (Option.bind (sr S30 700 v0) fun j34 =>
    Option.bind (sr S30 614 j34) fun j35 =>
    Option.bind (f_X10_at F S30 j35 v3) fun z36 => lt z36.1 fun r38 => lt z36.2 fun S37 =>
    if r38 < (si S30 701 v0) then
    (f_X8_holdsAskingFor_L68 F (fun a0 a1 a2 a3 a4 => f_X8_holdsAskingFor_L4 F fu a0 a1 a2 a3 a4) S37 v0 v1 v2 v3 r25)
    else
    (f_X8_holdsAskingFor_L69 F (fun a0 a1 a2 a3 a4 => f_X8_holdsAskingFor_L4 F fu a0 a1 a2 a3 a4) S37 v0 v1 v2 v3 r25 1)))
def f_X8_holdsAskingFor (F : Nat) (S0 : St) (p0 : Nat) (p1 : Int32) : Option (Int32 × St) :=
  f_X8_holdsAskingFor_L4 F F S0 p0 p1 0 0
def f_X8_addReferences_L69 (F : Nat) (k3 : St → Nat → Int32 → Int32 → Int32 → Int32 → Option (St)) (S0 : St) (v0 : Nat) (v1 : Int32) (v2 : Int32) (v3 : Int32) (v4 : Int32) (v5 : Int32) (s0 : Int32) (s1 : Int32) (s2 : Nat) : Option (St) :=
  Option.bind (f_X10_put F S0 s2 s1 s0) fun S2 =>
  Option.bind (sr S2 709 v0) fun j5 =>
  Option.bind (f_X10_put F S2 j5 v5 (si S2 701 v0)) fun S7 =>
  lt (v4 + 1) fun x10 =>
  k3 S7 v0 v1 v2 v3 x10
def f_X8_addReferences_L39 (F : Nat) (k3 : St → Nat → Int32 → Int32 → Int32 → Int32 → Option (St)) (S0 : St) (v0 : Nat) (v1 : Int32) (v2 : Int32) (v3 : Int32) (v4 : Int32) (v5 : Int32) (s0 : Int32) (s1 : Int32) (s2 : Nat) : Option (St) :=
  Option.bind (f_X10_put F S0 s2 s1 s0) fun S22 =>
  Option.bind (sr S22 708 v0) fun j25 =>
  if ¬ v3 = ((-1)) then
  (f_X8_addReferences_L69 F k3 S22 v0 v1 v2 v3 v4 v5 v3 v5 j25)
  else
  (Option.bind (sr S22 700 v0) fun j27 =>
  Option.bind (sr S22 607 j27) fun j28 =>
  Option.bind (f_X10_at F S22 j28 v4) fun z29 => lt z29.1 fun r31 => lt z29.2 fun S30 =>
  f_X8_addReferences_L69 F k3 S30 v0 v1 v2 v3 v4 v5 r31 v5 j25)
def f_X8_addReferences_L3 (F : Nat) : Nat → St → Nat → Int32 → Int32 → Int32 → Int32 → Option (St)
  | 0, _, _, _, _, _, _ => none
  | fu + 1, S0, v0, v1, v2, v3, v4 =>
    if 10 ≤ v4 then
    (some S0)
    else
    (lt ((v1 * 10) + v4) fun x46 =>
    Option.bind (sr S0 707 v0) fun j47 =>
    Option.bind (f_X10_hasBit F S0 v2 v4) fun z48 => lt z48.1 fun r50 => lt z48.2 fun S49 =>
    if r50 = 0 then
    (f_X8_addReferences_L39 F (fun a0 a1 a2 a3 a4 a5 => f_X8_addReferences_L3 F fu a0 a1 a2 a3 a4 a5) S49 v0 v1 v2 v3 v4 x46 ((-1)) x46 j47)
    else
    (f_X8_addReferences_L39 F (fun a0 a1 a2 a3 a4 a5 => f_X8_addReferences_L3 F fu a0 a1 a2 a3 a4 a5) S49 v0 v1 v2 v3 v4 x46 0 x46 j47))
def f_X8_addReferences (F : Nat) (S0 : St) (p0 : Nat) (p1 : Int32) (p2 : Int32) (p3 : Int32) : Option (St) :=
  f_X8_addReferences_L3 F F S0 p0 p1 p2 p3 0
def f_X8_receive_L600156 (F : Nat) (S0 : St) (nL : Nat) (v0 : Nat) (v3 : Int32) (v4 : Int32) (v5 : Int32) (v6 : Nat) : Option (Int32 × St × Nat) :=
  lt (ui S0 705 v0 ((si S0 705 v0) + 1)) fun S1 =>
  Option.bind (f_X8_holdsAskingFor F S1 v0 v5) fun z2 => lt z2.1 fun r4 => lt z2.2 fun S3 =>
  lt (ui S3 304 v6 r4) fun S6 =>
  Option.bind (f_X8_addReferences F S6 v0 v5 (v3 &&& ((si S6 702 v0) ^^^ ((-1)))) v4) fun S8 =>
  Option.bind (sr S8 711 v0) fun j11 =>
  Option.bind (f_X2_note F S8 j11 (si S8 701 v0) ((1 : Int32)) v5) fun S13 =>
  some (v5, S13, nL)
def f_X8_receive_L600132 (F : Nat) (S0 : St) (nL : Nat) (v0 : Nat) (v3 : Int32) (v4 : Int32) (v5 : Int32) (v6 : Nat) : Option (Int32 × St × Nat) :=
  if v5 < 0 then
  (f_X8_receive_L600156 F S0 nL v0 v3 v4 v5 v6)
  else
  (Option.bind (sr S0 706 v0) fun j32 =>
  if (nI (ln S0 j32)) ≤ v5 then
  (f_X8_receive_L600156 F S0 nL v0 v3 v4 v5 v6)
  else
  (Option.bind (sr S0 706 v0) fun j34 =>
  cki v5 (ln S0 j34) <|
  lt (uar S0 j34 (Int32.toNatClampNeg v5) (some v6)) fun S36 =>
  f_X8_receive_L600156 F S36 nL v0 v3 v4 v5 v6))
def f_X8_receive_L300126 (F : Nat) (S0 : St) (nL : Nat) (v0 : Nat) (v1 : Nat) (v3 : Int32) (v4 : Int32) (v5 : Int32) (v6 : Nat) (v7 : Int32) : Option (Int32 × St × Nat) :=
  lt (v7 + 1) fun x43 =>
  if (si S0 103 v1) ≤ x43 then
  (f_X8_receive_L600132 F S0 nL v0 v3 v4 v5 v6)
  else
  (none)
def f_X8_receive_L200126 (F : Nat) (S0 : St) (nL : Nat) (v0 : Nat) (v1 : Nat) (v3 : Int32) (v4 : Int32) (v5 : Int32) (v6 : Nat) (v7 : Int32) : Option (Int32 × St × Nat) :=
  lt (v7 + 1) fun x47 =>
  if (si S0 103 v1) ≤ x47 then
  (f_X8_receive_L600132 F S0 nL v0 v3 v4 v5 v6)
  else
  (Option.bind (sr S0 710 v0) fun j49 =>
  Option.bind (f_X9_numberFor F S0 nL j49 v1 x47 v5) fun z50 => lt z50.1 fun r52 => lt z50.2.1 fun S51 => lt z50.2.2 fun n53 =>
  Option.bind (sr S51 303 v6) fun j64 =>
  Option.bind (f_X10_put F S51 j64 x47 r52) fun S66 =>
  Option.bind (f_X1_isFirstOfItsKind F S66 v1 x47) fun z69 => lt z69.1 fun r71 => lt z69.2 fun S70 =>
  if r71 = 0 then
  (f_X8_receive_L300126 F S70 n53 v0 v1 v3 v4 v5 v6 x47)
  else
  (Option.bind (sr S70 710 v0) fun j74 =>
  Option.bind (f_X9_addKeeper F S70 j74 r52) fun z75 => lt z75.1 fun r77 => lt z75.2 fun S76 =>
  if r77 = 0 then
  (f_X8_receive_L300126 F S76 n53 v0 v1 v3 v4 v5 v6 x47)
  else
  (Option.bind (sr S76 711 v0) fun j80 =>
  Option.bind (f_X2_note F S76 j80 (si S76 701 v0) ((7 : Int32)) r52) fun S82 =>
  f_X8_receive_L300126 F S82 n53 v0 v1 v3 v4 v5 v6 x47)))
def f_X8_receive_L100126 (F : Nat) (S0 : St) (nL : Nat) (v0 : Nat) (v1 : Nat) (v3 : Int32) (v4 : Int32) (v5 : Int32) (v6 : Nat) (v7 : Int32) : Option (Int32 × St × Nat) :=
  lt (v7 + 1) fun x123 =>
  if (si S0 103 v1) ≤ x123 then
  (f_X8_receive_L600132 F S0 nL v0 v3 v4 v5 v6)
  else
  (Option.bind (sr S0 710 v0) fun j125 =>
  Option.bind (f_X9_numberFor F S0 nL j125 v1 x123 v5) fun z126 => lt z126.1 fun r128 => lt z126.2.1 fun S127 => lt z126.2.2 fun n129 =>
  Option.bind (sr S127 303 v6) fun j140 =>
  Option.bind (f_X10_put F S127 j140 x123 r128) fun S142 =>
  Option.bind (f_X1_isFirstOfItsKind F S142 v1 x123) fun z145 => lt z145.1 fun r147 => lt z145.2 fun S146 =>
  if r147 = 0 then
  (f_X8_receive_L200126 F S146 n129 v0 v1 v3 v4 v5 v6 x123)
  else
  (Option.bind (sr S146 710 v0) fun j150 =>
  Option.bind (f_X9_addKeeper F S146 j150 r128) fun z151 => lt z151.1 fun r153 => lt z151.2 fun S152 =>
  if r153 = 0 then
  (f_X8_receive_L200126 F S152 n129 v0 v1 v3 v4 v5 v6 x123)
  else
  (Option.bind (sr S152 711 v0) fun j156 =>
  Option.bind (f_X2_note F S152 j156 (si S152 701 v0) ((7 : Int32)) r128) fun S158 =>
  f_X8_receive_L200126 F S158 n129 v0 v1 v3 v4 v5 v6 x123)))
def f_X8_receive_L126 (F : Nat) (S0 : St) (nL : Nat) (v0 : Nat) (v1 : Nat) (v3 : Int32) (v4 : Int32) (v5 : Int32) (v6 : Nat) (v7 : Int32) : Option (Int32 × St × Nat) :=
  lt (v7 + 1) fun x199 =>
  if (si S0 103 v1) ≤ x199 then
  (f_X8_receive_L600132 F S0 nL v0 v3 v4 v5 v6)
  else
  (Option.bind (sr S0 710 v0) fun j201 =>
  Option.bind (f_X9_numberFor F S0 nL j201 v1 x199 v5) fun z202 => lt z202.1 fun r204 => lt z202.2.1 fun S203 => lt z202.2.2 fun n205 =>
  Option.bind (sr S203 303 v6) fun j216 =>
  Option.bind (f_X10_put F S203 j216 x199 r204) fun S218 =>
  Option.bind (f_X1_isFirstOfItsKind F S218 v1 x199) fun z221 => lt z221.1 fun r223 => lt z221.2 fun S222 =>
  if r223 = 0 then
  (f_X8_receive_L100126 F S222 n205 v0 v1 v3 v4 v5 v6 x199)
  else
  (Option.bind (sr S222 710 v0) fun j226 =>
  Option.bind (f_X9_addKeeper F S222 j226 r204) fun z227 => lt z227.1 fun r229 => lt z227.2 fun S228 =>
  if r229 = 0 then
  (f_X8_receive_L100126 F S228 n205 v0 v1 v3 v4 v5 v6 x199)
  else
  (Option.bind (sr S228 711 v0) fun j232 =>
  Option.bind (f_X2_note F S228 j232 (si S228 701 v0) ((7 : Int32)) r204) fun S234 =>
  f_X8_receive_L100126 F S234 n205 v0 v1 v3 v4 v5 v6 x199)))
def f_X8_receive (F : Nat) (S0 : St) (n : Nat) (p0 : Nat) (p1 : Nat) (p2 : Int32) (p3 : Int32) (p4 : Int32) : Option (Int32 × St × Nat) :=
  Option.bind (f_X1_sizeOfAll F S0 p1) fun z275 => lt z275.1 fun r277 => lt z275.2 fun S276 =>
  Option.bind (f_X8_bounce F S276 p0 p3 r277) fun z279 => lt z279.1 fun r281 => lt z279.2 fun S280 =>
  lt (ui S280 702 p0 r281) fun S283 =>
  if ¬ (si S283 702 p0) = p3 then
  (lt (si S283 705 p0) fun x285 =>
  lt (nob S283 n) fun S289 => lt (n + 1) fun n290 =>
  Option.bind (f_X1_sizeOfAll F S289 p1) fun z297 => lt z297.1 fun r299 => lt z297.2 fun S298 =>
  Option.bind (f_X4_init F S298 n290 n p2 (si S289 701 p0) r299 (si S298 103 p1)) fun z301 => lt z301.1 fun S302 => lt z301.2 fun n304 =>
  if (si S302 103 p1) ≤ 0 then
  (f_X8_receive_L600132 F S302 n304 p0 p3 p4 x285 n)
  else
  (Option.bind (sr S302 710 p0) fun j316 =>
  Option.bind (f_X9_numberFor F S302 n304 j316 p1 ((0 : Int32)) x285) fun z317 => lt z317.1 fun r319 => lt z317.2.1 fun S318 => lt z317.2.2 fun n320 =>
  Option.bind (sr S318 303 n) fun j331 =>
  Option.bind (f_X10_put F S318 j331 ((0 : Int32)) r319) fun S333 =>
  Option.bind (f_X1_isFirstOfItsKind F S333 p1 ((0 : Int32))) fun z336 => lt z336.1 fun r338 => lt z336.2 fun S337 =>
  if r338 = 0 then
  (f_X8_receive_L126 F S337 n320 p0 p1 p3 p4 x285 n 0)
  else
  (Option.bind (sr S337 710 p0) fun j341 =>
  Option.bind (f_X9_addKeeper F S337 j341 r319) fun z342 => lt z342.1 fun r344 => lt z342.2 fun S343 =>
  if r344 = 0 then
  (f_X8_receive_L126 F S343 n320 p0 p1 p3 p4 x285 n 0)
  else
  (Option.bind (sr S343 711 p0) fun j347 =>
  Option.bind (f_X2_note F S343 j347 (si S343 701 p0) ((7 : Int32)) r319) fun S349 =>
  f_X8_receive_L126 F S349 n320 p0 p1 p3 p4 x285 n 0))))
  else
  (some ((-2), S283, n))
def f_X10_deliver_L98 (F : Nat) (S0 : St) (nL : Nat) : Option ((Nat ⊕ Int32) × St × Nat) :=
  some (.inl 1, S0, nL)
def f_X10_deliver_L56 (F : Nat) (S0 : St) (nL : Nat) : Option ((Nat ⊕ Int32) × St × Nat) :=
  some (.inl 2, S0, nL)
def f_X10_deliver_L15 (F : Nat) (S0 : St) (nL : Nat) (v0 : Nat) (v1 : Int32) (v2 : Int32) (v3 : Int32) : Option ((Nat ⊕ Int32) × St × Nat) :=
  Option.bind (sr S0 905 v0) fun j1 =>
  Option.bind (sr S0 700 j1) fun j2 =>
  Option.bind (f_X7_allUsers F S0 j2) fun z3 => lt z3.1 fun r5 => lt z3.2 fun S4 =>
  if (v2 &&& (r5 ^^^ ((-1)))) = 0 then
  (if v2 = 0 then
  (f_X10_deliver_L56 F S4 nL)
  else
  (Option.bind (sr S4 902 v0) fun j9 =>
  Option.bind (f_X1_cut F S4 j9) fun z10 => lt z10.1 fun r12 => lt z10.2 fun S11 =>
  if ¬ r12 = 0 then
  (Option.bind (sr S11 905 v0) fun j15 =>
  if 120 ≤ (si S11 705 j15) then
  (f_X10_deliver_L98 F S11 nL)
  else
  (Option.bind (sr S11 905 v0) fun j17 =>
  Option.bind (sr S11 710 j17) fun j18 =>
  Option.bind (sr S11 902 v0) fun j19 =>
  Option.bind (f_X9_bytesWith F S11 j18 j19) fun z20 => lt z20.1 fun r22 => lt z20.2 fun S21 =>
  if r22 ≤ 8000 then
  (Option.bind (f_X10_remember F S21 v0) fun S26 =>
  Option.bind (sr S26 905 v0) fun j29 =>
  Option.bind (sr S26 902 v0) fun j30 =>
  Option.bind (f_X8_receive F S26 nL j29 j30 v1 v2 v3) fun z31 => lt z31.1 fun r33 => lt z31.2.1 fun S32 => lt z31.2.2 fun n34 =>
  Option.bind (sr S32 900 v0) fun j41 =>
  Option.bind (f_X0_cutTo F S32 j41 ((0 : Int32))) fun S43 =>
  some (.inr r33, S43, n34))
  else
  (f_X10_deliver_L98 F S21 nL)))
  else
  (f_X10_deliver_L56 F S11 nL)))
  else
  (some (.inl 4, S4, nL))
def f_X10_deliver (F : Nat) (S0 : St) (n : Nat) (p0 : Nat) (p1 : Int32) (p2 : Int32) (p3 : Int32) : Option ((Nat ⊕ Int32) × St × Nat) :=
  Option.bind (f_X10_needUser F S0 p0 p1) fun z91 => lt z91.2 fun S92 =>
  sm z91.1 (fun x => some (.inl x, S92, n)) (fun r93 =>
  if p3 = ((-1)) then
  (f_X10_deliver_L15 F S92 n p0 p1 p2 p3)
  else
  (Option.bind (f_X10_needClass F S92 p0 p3) fun z96 => lt z96.2 fun S97 =>
  sm z96.1 (fun x => some (.inl x, S97, n)) (fun r98 =>
  f_X10_deliver_L15 F S97 n p0 p1 p2 p3)))
def f_X10_bounced (F : Nat) (S0 : St) (p0 : Nat) : Option (Int32 × St) :=
  Option.bind (sr S0 905 p0) fun j1 =>
  some (si S0 702 j1, S0)
def f_X10_messageCount (F : Nat) (S0 : St) (p0 : Nat) : Option (Int32 × St) :=
  Option.bind (sr S0 905 p0) fun j1 =>
  some (si S0 705 j1, S0)
def f_X10_needMessage_L15 (F : Nat) (S0 : St) : Option ((Nat ⊕ Unit) × St) :=
  some (.inl 4, S0)
def f_X10_needMessage (F : Nat) (S0 : St) (p0 : Nat) (p1 : Int32) : Option ((Nat ⊕ Unit) × St) :=
  if p1 < 0 then
  (f_X10_needMessage_L15 F S0)
  else
  (Option.bind (sr S0 905 p0) fun j2 =>
  if p1 < (si S0 705 j2) then
  (some (.inr (), S0))
  else
  (f_X10_needMessage_L15 F S0))
def f_X10_needWhat_L9 (F : Nat) (S0 : St) : Option ((Nat ⊕ Unit) × St) :=
  some (.inl 2, S0)
def f_X10_needWhat (F : Nat) (S0 : St) (p0 : Int32) (p1 : Int32) : Option ((Nat ⊕ Unit) × St) :=
  if p0 < 0 then
  (f_X10_needWhat_L9 F S0)
  else
  (if p0 ≤ p1 then
  (some (.inr (), S0))
  else
  (f_X10_needWhat_L9 F S0))
def f_X8_keepsMessage_L34 (F : Nat) (k2 : St → Nat → Int32 → Int32 → Option (Int32 × St)) (S0 : St) (v0 : Nat) (v1 : Int32) (v2 : Int32) : Option (Int32 × St) :=
  lt (v2 + 1) fun x1 =>
  k2 S0 v0 v1 x1
def f_X8_keepsMessage_L2 (F : Nat) : Nat → St → Nat → Int32 → Int32 → Option (Int32 × St)
  | 0, _, _, _, _ => none
  | fu + 1, S0, v0, v1, v2 =>
    Option.bind (sr S0 700 v0) fun j3 =>
    Option.bind (sr S0 606 j3) fun j4 =>
    if (si S0 401 j4) ≤ v2 then
    (some (0, S0))
    else
    (Option.bind (f_X8_stateOf F S0 v0 v1 v2) fun z6 => lt z6.1 fun r8 => lt z6.2 fun S7 =>
    if r8 < 0 then
    (f_X8_keepsMessage_L34 F (fun a0 a1 a2 a3 => f_X8_keepsMessage_L2 F fu a0 a1 a2 a3) S7 v0 v1 v2)
    else
    (if 2 < r8 then
    (f_X8_keepsMessage_L34 F (fun a0 a1 a2 a3 => f_X8_keepsMessage_L2 F fu a0 a1 a2 a3) S7 v0 v1 v2)
    else
    (some (1, S7))))
def f_X8_keepsMessage (F : Nat) (S0 : St) (p0 : Nat) (p1 : Int32) : Option (Int32 × St) :=
  f_X8_keepsMessage_L2 F F S0 p0 p1 0
def f_X10_message (F : Nat) (S0 : St) (p0 : Nat) (p1 : Int32) (p2 : Int32) : Option ((Nat ⊕ Int32) × St) :=
  Option.bind (f_X10_needMessage F S0 p0 p1) fun z1 => lt z1.2 fun S2 =>
  sm z1.1 (fun x => some (.inl x, S2)) (fun r3 =>
  Option.bind (f_X10_needWhat F S2 p2 ((4 : Int32))) fun z5 => lt z5.2 fun S6 =>
  sm z5.1 (fun x => some (.inl x, S6)) (fun r7 =>
  Option.bind (sr S6 905 p0) fun j9 =>
  Option.bind (f_X8_messageAt F S6 j9 p1) fun z10 => lt z10.1 fun r12 => lt z10.2 fun S11 =>
  Option.bind r12 fun j14 =>
  if p2 = 0 then
  (some (.inr (si S11 300 j14), S11))
  else
  (if p2 = 1 then
  (some (.inr (si S11 301 j14), S11))
  else
  (if p2 = 2 then
  (Option.bind (sr S11 303 j14) fun j18 =>
  some (.inr (nI (ln S11 j18)), S11))
  else
  (if p2 = 3 then
  (some (.inr (si S11 302 j14), S11))
  else
  (Option.bind (sr S11 905 p0) fun j20 =>
  Option.bind (f_X8_keepsMessage F S11 j20 p1) fun z21 => lt z21.1 fun r23 => lt z21.2 fun S22 =>
  if r23 = 0 then
  (some (.inr 0, S22))
  else
  (some (.inr 1, S22))))))))
def f_X10_partOf_L27 (F : Nat) (S0 : St) : Option ((Nat ⊕ Int32) × St) :=
  some (.inl 4, S0)
def f_X10_partOf (F : Nat) (S0 : St) (p0 : Nat) (p1 : Int32) (p2 : Int32) : Option ((Nat ⊕ Int32) × St) :=
  Option.bind (f_X10_needMessage F S0 p0 p1) fun z1 => lt z1.2 fun S2 =>
  sm z1.1 (fun x => some (.inl x, S2)) (fun r3 =>
  Option.bind (sr S2 905 p0) fun j5 =>
  Option.bind (f_X8_messageAt F S2 j5 p1) fun z6 => lt z6.1 fun r8 => lt z6.2 fun S7 =>
  Option.bind r8 fun j10 =>
  if p2 < 0 then
  (f_X10_partOf_L27 F S7)
  else
  (Option.bind (sr S7 303 j10) fun j12 =>
  if p2 < (nI (ln S7 j12)) then
  (Option.bind (sr S7 303 j10) fun j14 =>
  Option.bind (f_X10_at F S7 j14 p2) fun z15 => lt z15.1 fun r17 => lt z15.2 fun S16 =>
  some (.inr r17, S16))
  else
  (f_X10_partOf_L27 F S7)))
def f_X8_usersIn_L51 (F : Nat) (k6 : St → Nat → Int32 → Int32 → Int32 → Int32 → Int32 → Option (Int32 × St)) (S0 : St) (v0 : Nat) (v1 : Int32) (v2 : Int32) (v3 : Int32) (v4 : Int32) (v5 : Int32) : Option (Int32 × St) :=
  lt (v5 + 1) fun x1 =>
  k6 S0 v0 v1 v2 v3 v4 x1
def f_X8_usersIn_L6 (F : Nat) : Nat → St → Nat → Int32 → Int32 → Int32 → Int32 → Int32 → Option (Int32 × St)
  | 0, _, _, _, _, _, _, _ => none
  | fu + 1, S0, v0, v1, v2, v3, v4, v5 =>
    Option.bind (sr S0 700 v0) fun j3 =>
    Option.bind (sr S0 606 j3) fun j4 =>
    if (si S0 401 j4) ≤ v5 then
    (some (v4, S0))
    else
    (Option.bind (f_X8_stateOf F S0 v0 v1 v5) fun z6 => lt z6.1 fun r8 => lt z6.2 fun S7 =>
    if r8 < v2 then
    (f_X8_usersIn_L51 F (fun a0 a1 a2 a3 a4 a5 a6 => f_X8_usersIn_L6 F fu a0 a1 a2 a3 a4 a5 a6) S7 v0 v1 v2 v3 v4 v5)
    else
    (if v3 < r8 then
    (f_X8_usersIn_L51 F (fun a0 a1 a2 a3 a4 a5 a6 => f_X8_usersIn_L6 F fu a0 a1 a2 a3 a4 a5 a6) S7 v0 v1 v2 v3 v4 v5)
    else
    (lt (v4 ||| (1 <<< (v5 &&& 31))) fun x12 =>
    f_X8_usersIn_L51 F (fun a0 a1 a2 a3 a4 a5 a6 => f_X8_usersIn_L6 F fu a0 a1 a2 a3 a4 a5 a6) S7 v0 v1 v2 v3 x12 v5)))
def f_X8_usersIn (F : Nat) (S0 : St) (p0 : Nat) (p1 : Int32) (p2 : Int32) (p3 : Int32) : Option (Int32 × St) :=
  f_X8_usersIn_L6 F F S0 p0 p1 p2 p3 0 0
def f_X10_readers (F : Nat) (S0 : St) (p0 : Nat) (p1 : Int32) : Option ((Nat ⊕ Int32) × St) :=
  Option.bind (f_X10_needMessage F S0 p0 p1) fun z1 => lt z1.2 fun S2 =>
  sm z1.1 (fun x => some (.inl x, S2)) (fun r3 =>
  Option.bind (sr S2 905 p0) fun j5 =>
  Option.bind (f_X8_usersIn F S2 j5 p1 ((0 : Int32)) ((0 : Int32))) fun z6 => lt z6.1 fun r8 => lt z6.2 fun S7 =>
  some (.inr r8, S7))
def f_X10_needReference (F : Nat) (S0 : St) (p0 : Nat) (p1 : Int32) (p2 : Int32) : Option ((Nat ⊕ Unit) × St) :=
  Option.bind (sr S0 905 p0) fun j1 =>
  Option.bind (f_X8_stateOf F S0 j1 p1 p2) fun z2 => lt z2.1 fun r4 => lt z2.2 fun S3 =>
  if ¬ r4 = ((-1)) then
  (some (.inr (), S3))
  else
  (some (.inl 4, S3))
def f_X10_state (F : Nat) (S0 : St) (p0 : Nat) (p1 : Int32) (p2 : Int32) : Option ((Nat ⊕ Int32) × St) :=
  Option.bind (f_X10_needReference F S0 p0 p1 p2) fun z1 => lt z1.2 fun S2 =>
  sm z1.1 (fun x => some (.inl x, S2)) (fun r3 =>
  Option.bind (sr S2 905 p0) fun j5 =>
  Option.bind (f_X8_stateOf F S2 j5 p1 p2) fun z6 => lt z6.1 fun r8 => lt z6.2 fun S7 =>
  some (.inr r8, S7))
def f_X8_retentionOf (F : Nat) (S0 : St) (p0 : Nat) (p1 : Int32) (p2 : Int32) : Option (Int32 × St) :=
  Option.bind (sr S0 708 p0) fun j1 =>
  Option.bind (f_X10_at F S0 j1 ((p1 * 10) + p2)) fun z2 => lt z2.1 fun r4 => lt z2.2 fun S3 =>
  some (r4, S3)
def f_X10_classOf (F : Nat) (S0 : St) (p0 : Nat) (p1 : Int32) (p2 : Int32) : Option ((Nat ⊕ Int32) × St) :=
  Option.bind (f_X10_needReference F S0 p0 p1 p2) fun z1 => lt z1.2 fun S2 =>
  sm z1.1 (fun x => some (.inl x, S2)) (fun r3 =>
  Option.bind (sr S2 905 p0) fun j5 =>
  Option.bind (f_X8_retentionOf F S2 j5 p1 p2) fun z6 => lt z6.1 fun r8 => lt z6.2 fun S7 =>
  some (.inr r8, S7))
def f_X10_enteredOn (F : Nat) (S0 : St) (p0 : Nat) (p1 : Int32) (p2 : Int32) : Option ((Nat ⊕ Int32) × St) :=
  Option.bind (f_X10_needReference F S0 p0 p1 p2) fun z1 => lt z1.2 fun S2 =>
  sm z1.1 (fun x => some (.inl x, S2)) (fun r3 =>
  Option.bind (sr S2 905 p0) fun j5 =>
  Option.bind (sr S2 709 j5) fun j6 =>
  Option.bind (f_X10_at F S2 j6 ((p1 * 10) + p2)) fun z7 => lt z7.1 fun r9 => lt z7.2 fun S8 =>
  some (.inr r9, S8))
def f_X10_storedParts (F : Nat) (S0 : St) (p0 : Nat) : Option (Int32 × St) :=
  Option.bind (sr S0 905 p0) fun j1 =>
  Option.bind (sr S0 710 j1) fun j2 =>
  some (si S0 801 j2, S0)
def f_X10_needPart (F : Nat) (S0 : St) (p0 : Nat) (p1 : Int32) : Option ((Nat ⊕ Unit) × St) :=
  Option.bind (sr S0 905 p0) fun j1 =>
  Option.bind (sr S0 710 j1) fun j2 =>
  Option.bind (f_X9_isStored F S0 j2 p1) fun z3 => lt z3.1 fun r5 => lt z3.2 fun S4 =>
  if ¬ r5 = 0 then
  (some (.inr (), S4))
  else
  (some (.inl 4, S4))
def f_X10_part (F : Nat) (S0 : St) (p0 : Nat) (p1 : Int32) (p2 : Int32) : Option ((Nat ⊕ Int32) × St) :=
  Option.bind (f_X10_needPart F S0 p0 p1) fun z1 => lt z1.2 fun S2 =>
  sm z1.1 (fun x => some (.inl x, S2)) (fun r3 =>
  Option.bind (f_X10_needWhat F S2 p2 ((3 : Int32))) fun z5 => lt z5.2 fun S6 =>
  sm z5.1 (fun x => some (.inl x, S6)) (fun r7 =>
  if p2 = 0 then
  (Option.bind (sr S6 905 p0) fun j10 =>
  Option.bind (sr S6 710 j10) fun j11 =>
  Option.bind (f_X9_bytesOf F S6 j11 p1) fun z12 => lt z12.1 fun r14 => lt z12.2 fun S13 =>
  Option.bind r14 fun j16 =>
  some (.inr (si S13 1 j16), S13))
  else
  (if p2 = 1 then
  (Option.bind (sr S6 905 p0) fun j18 =>
  Option.bind (sr S6 710 j18) fun j19 =>
  Option.bind (sr S6 805 j19) fun j20 =>
  Option.bind (f_X10_at F S6 j20 p1) fun z21 => lt z21.1 fun r23 => lt z21.2 fun S22 =>
  some (.inr r23, S22))
  else
  (if p2 = 2 then
  (Option.bind (sr S6 905 p0) fun j26 =>
  Option.bind (sr S6 710 j26) fun j27 =>
  Option.bind (sr S6 806 j27) fun j28 =>
  Option.bind (f_X10_at F S6 j28 p1) fun z29 => lt z29.1 fun r31 => lt z29.2 fun S30 =>
  some (.inr r31, S30))
  else
  (Option.bind (sr S6 905 p0) fun j33 =>
  Option.bind (sr S6 710 j33) fun j34 =>
  Option.bind (sr S6 804 j34) fun j35 =>
  Option.bind (f_X10_at F S6 j35 p1) fun z36 => lt z36.1 fun r38 => lt z36.2 fun S37 =>
  some (.inr r38, S37))))))
def f_X0_hash_L6 (F : Nat) : Nat → St → Nat → Int64 → Int32 → Option (Int64 × St)
  | 0, _, _, _, _ => none
  | fu + 1, S0, v0, v1, v3 =>
    if (si S0 1 v0) ≤ v3 then
    (some (v1, S0))
    else
    (Option.bind (f_X0_byteAt F S0 v0 v3) fun z2 => lt z2.1 fun r4 => lt z2.2 fun S3 =>
    lt ((v1 ^^^ r4.toInt64) * ((1099511628211))) fun x6 =>
    lt (v3 + 1) fun x7 =>
    (fun a0 a1 a2 a3 => f_X0_hash_L6 F fu a0 a1 a2 a3) S3 v0 x6 x7)
def f_X0_hash (F : Nat) (S0 : St) (p0 : Nat) : Option (Int64 × St) :=
  lt ((-3750763034362895579)) fun x15 =>
  f_X0_hash_L6 F F S0 p0 x15 0
def f_X10_digest (F : Nat) (S0 : St) (p0 : Nat) (p1 : Int32) : Option ((Nat ⊕ Int64) × St) :=
  Option.bind (f_X10_needPart F S0 p0 p1) fun z1 => lt z1.2 fun S2 =>
  sm z1.1 (fun x => some (.inl x, S2)) (fun r3 =>
  Option.bind (sr S2 905 p0) fun j5 =>
  Option.bind (sr S2 710 j5) fun j6 =>
  Option.bind (f_X9_bytesOf F S2 j6 p1) fun z7 => lt z7.1 fun r9 => lt z7.2 fun S8 =>
  Option.bind r9 fun j11 =>
  Option.bind (f_X0_hash F S8 j11) fun z12 => lt z12.1 fun r14 => lt z12.2 fun S13 =>
  some (.inr r14, S13))
def f_X10_storedBytes (F : Nat) (S0 : St) (p0 : Nat) : Option (Int32 × St) :=
  Option.bind (sr S0 905 p0) fun j1 =>
  Option.bind (sr S0 710 j1) fun j2 =>
  Option.bind (f_X9_byteSum F S0 j2 ((0 : Int32))) fun z3 => lt z3.1 fun r5 => lt z3.2 fun S4 =>
  some (r5, S4)
def f_X10_deadBytes (F : Nat) (S0 : St) (p0 : Nat) : Option (Int32 × St) :=
  Option.bind (sr S0 905 p0) fun j1 =>
  Option.bind (sr S0 710 j1) fun j2 =>
  Option.bind (f_X9_byteSum F S0 j2 ((1 : Int32))) fun z3 => lt z3.1 fun r5 => lt z3.2 fun S4 =>
  some (r5, S4)
def f_X10_logicalBytes_L4 (F : Nat) : Nat → St → Nat → Int32 → Int32 → Option (Int32 × St)
  | 0, _, _, _, _ => none
  | fu + 1, S0, v0, v1, v2 =>
    Option.bind (sr S0 905 v0) fun j1 =>
    Option.bind (sr S0 700 j1) fun j2 =>
    Option.bind (sr S0 606 j2) fun j3 =>
    if (si S0 401 j3) ≤ v2 then
    (some (v1, S0))
    else
    (Option.bind (sr S0 905 v0) fun j5 =>
    Option.bind (f_X8_usageOf F S0 j5 v2) fun z6 => lt z6.1 fun r8 => lt z6.2 fun S7 =>
    lt (v1 + r8) fun x10 =>
    lt (v2 + 1) fun x11 =>
    (fun a0 a1 a2 a3 => f_X10_logicalBytes_L4 F fu a0 a1 a2 a3) S7 v0 x10 x11)
def f_X10_logicalBytes (F : Nat) (S0 : St) (p0 : Nat) : Option (Int32 × St) :=
  f_X10_logicalBytes_L4 F F S0 p0 0 0
def f_X10_usage (F : Nat) (S0 : St) (p0 : Nat) (p1 : Int32) : Option ((Nat ⊕ Int32) × St) :=
  Option.bind (f_X10_needUser F S0 p0 p1) fun z1 => lt z1.2 fun S2 =>
  sm z1.1 (fun x => some (.inl x, S2)) (fun r3 =>
  Option.bind (sr S2 905 p0) fun j5 =>
  Option.bind (f_X8_usageOf F S2 j5 p1) fun z6 => lt z6.1 fun r8 => lt z6.2 fun S7 =>
  some (.inr r8, S7))
def f_J7_fill_53178_L5 (F : Nat) : Nat → St → Nat → Int32 → Int32 → Int32 → Option (St)
  | 0, _, _, _, _, _ => none
  | fu + 1, S0, v0, v1, v2, v3 =>
    if v3 ≤ v2 then
    (some S0)
    else
    (cki v2 (ln S0 v0) <|
    lt (uai S0 v0 (Int32.toNatClampNeg v2) v1) fun S3 =>
    lt (v2 + 1) fun x4 =>
    (fun a0 a1 a2 a3 a4 => f_J7_fill_53178_L5 F fu a0 a1 a2 a3 a4) S3 v0 v1 x4 v3)
def f_J7_fill_53178 (F : Nat) (S0 : St) (p0 : Nat) (p1 : Int32) : Option (St) :=
  lt (nI (ln S0 p0)) fun x9 =>
  f_J7_fill_53178_L5 F F S0 p0 p1 0 x9
def f_X8_gatherReaders_L41 (F : Nat) (k7 : St → Nat → Nat → Int32 → Option (St)) : Nat → St → Nat → Nat → Int32 → Int32 → Nat → Int32 → Int32 → Option (St)
  | 0, _, _, _, _, _, _, _, _ => none
  | fu + 1, S0, v0, v1, v2, v3, v4, v5, v6 =>
    if v5 ≤ v6 then
    (lt (v2 + 1) fun x2 =>
    k7 S0 v0 v1 x2)
    else
    (cki v6 (ln S0 v4) <|
    lt (ai S0 v4 (Int32.toNatClampNeg v6)) fun x4 =>
    Option.bind (f_X10_at F S0 v1 x4) fun z5 => lt z5.1 fun r7 => lt z5.2 fun S6 =>
    Option.bind (f_X10_put F S6 v1 x4 (r7 ||| v3)) fun S10 =>
    lt (v6 + 1) fun x13 =>
    (fun a0 a1 a2 a3 a4 a5 a6 a7 => f_X8_gatherReaders_L41 F k7 fu a0 a1 a2 a3 a4 a5 a6 a7) S10 v0 v1 v2 v3 v4 v5 x13)
def f_X8_gatherReaders_L7 (F : Nat) : Nat → St → Nat → Nat → Int32 → Option (St)
  | 0, _, _, _, _ => none
  | fu + 1, S0, v0, v1, v2 =>
    if (si S0 705 v0) ≤ v2 then
    (some S0)
    else
    (Option.bind (f_X8_usersIn F S0 v0 v2 ((0 : Int32)) ((0 : Int32))) fun z28 => lt z28.1 fun r30 => lt z28.2 fun S29 =>
    Option.bind (f_X8_messageAt F S29 v0 v2) fun z32 => lt z32.1 fun r34 => lt z32.2 fun S33 =>
    Option.bind r34 fun j36 =>
    Option.bind (sr S33 303 j36) fun j37 =>
    lt (nI (ln S33 j37)) fun x38 =>
    f_X8_gatherReaders_L41 F (fun a0 a1 a2 a3 => f_X8_gatherReaders_L7 F fu a0 a1 a2 a3) F S33 v0 v1 v2 r30 j37 x38 0)
def f_X8_gatherReaders (F : Nat) (S0 : St) (p0 : Nat) (p1 : Nat) : Option (St) :=
  Option.bind (f_J7_fill_53178 F S0 p1 ((0 : Int32))) fun S52 =>
  f_X8_gatherReaders_L7 F F S52 p0 p1 0
def f_J6_bitCount_0f7a4 (F : Nat) (S0 : St) (p0 : Int32) : Option (Int32 × St) :=
  lt (p0 - (((p0.toUInt32 >>> ((1 : Int32).toUInt32 &&& Int32.toUInt32 31)).toInt32) &&& 1431655765)) fun x1 =>
  lt ((x1 &&& 858993459) + (((x1.toUInt32 >>> ((2 : Int32).toUInt32 &&& Int32.toUInt32 31)).toInt32) &&& 858993459)) fun x2 =>
  lt ((x2 + ((x2.toUInt32 >>> ((4 : Int32).toUInt32 &&& Int32.toUInt32 31)).toInt32)) &&& 252645135) fun x3 =>
  lt (x3 + ((x3.toUInt32 >>> ((8 : Int32).toUInt32 &&& Int32.toUInt32 31)).toInt32)) fun x4 =>
  lt (x4 + ((x4.toUInt32 >>> ((16 : Int32).toUInt32 &&& Int32.toUInt32 31)).toInt32)) fun x5 =>
  some (x5 &&& 63, S0)
def f_X10_fairShare_L85 (F : Nat) (k21 : St → Nat → Int32 → UInt64 → Int32 → Option ((Nat ⊕ UInt64) × St)) (S0 : St) (v0 : Nat) (v1 : Int32) (v2 : UInt64) (v4 : Int32) : Option ((Nat ⊕ UInt64) × St) :=
  lt (v4 + 1) fun x1 =>
  k21 S0 v0 v1 v2 x1
def f_X10_fairShare_L21 (F : Nat) : Nat → St → Nat → Int32 → UInt64 → Int32 → Option ((Nat ⊕ UInt64) × St)
  | 0, _, _, _, _, _ => none
  | fu + 1, S0, v0, v1, v2, v4 =>
    Option.bind (sr S0 910 v0) fun j3 =>
    if (nI (ln S0 j3)) ≤ v4 then
    (some (.inr v2, S0))
    else
    (Option.bind (sr S0 910 v0) fun j5 =>
    cki v4 (ln S0 j5) <|
    Option.bind (f_J6_bitCount_0f7a4 F S0 (ai S0 j5 (Int32.toNatClampNeg v4))) fun z7 => lt z7.1 fun r9 => lt z7.2 fun S8 =>
    if r9 ≤ 0 then
    (f_X10_fairShare_L85 F (fun a0 a1 a2 a3 a4 => f_X10_fairShare_L21 F fu a0 a1 a2 a3 a4) S8 v0 v1 v2 v4)
    else
    (Option.bind (sr S8 910 v0) fun j12 =>
    cki v4 (ln S8 j12) <|
    Option.bind (f_X10_hasBit F S8 (ai S8 j12 (Int32.toNatClampNeg v4)) v1) fun z14 => lt z14.1 fun r16 => lt z14.2 fun S15 =>
    if r16 = 0 then
    (f_X10_fairShare_L85 F (fun a0 a1 a2 a3 a4 => f_X10_fairShare_L21 F fu a0 a1 a2 a3 a4) S15 v0 v1 v2 v4)
    else
    (Option.bind (sr S15 905 v0) fun j19 =>
    Option.bind (sr S15 710 j19) fun j20 =>
    Option.bind (f_X9_bytesOf F S15 j20 v4) fun z21 => lt z21.1 fun r23 => lt z21.2 fun S22 =>
    Option.bind r23 fun j25 =>
    ckn (FP.ddiv (FP.i2d (si S22 1 j25)) (FP.i2d r9)) <|
    ckn (FP.dadd v2 (FP.ddiv (FP.i2d (si S22 1 j25)) (FP.i2d r9))) <|
    lt (FP.dadd v2 (FP.ddiv (FP.i2d (si S22 1 j25)) (FP.i2d r9))) fun x28 =>
    f_X10_fairShare_L85 F (fun a0 a1 a2 a3 a4 => f_X10_fairShare_L21 F fu a0 a1 a2 a3 a4) S22 v0 v1 x28 v4)))
def f_X10_fairShare (F : Nat) (S0 : St) (p0 : Nat) (p1 : Int32) : Option ((Nat ⊕ UInt64) × St) :=
  Option.bind (f_X10_needUser F S0 p0 p1) fun z55 => lt z55.2 fun S56 =>
  sm z55.1 (fun x => some (.inl x, S56)) (fun r57 =>
  Option.bind (sr S56 905 p0) fun j59 =>
  Option.bind (sr S56 910 p0) fun j60 =>
  Option.bind (f_X8_gatherReaders F S56 j59 j60) fun S62 =>
  lt FP.dconst0 fun x65 =>
  f_X10_fairShare_L21 F F S62 p0 p1 x65 0)
def f_X0_wholeWord_L4 (F : Nat) : Nat → St → Nat → Int64 → Int32 → Option (Int64 × St)
  | 0, _, _, _, _ => none
  | fu + 1, S0, v0, v1, v3 =>
    if (si S0 1 v0) ≤ v3 then
    (if ¬ (lg_cmp v1 ((-1))) = 0 then
    (some (v1, S0))
    else
    (some (0, S0)))
    else
    (Option.bind (f_X0_byteAt F S0 v0 v3) fun z3 => lt z3.1 fun r5 => lt z3.2 fun S4 =>
    Option.bind (f_X10_isLetter F S4 r5) fun z7 => lt z7.1 fun r9 => lt z7.2 fun S8 =>
    if ¬ r9 = 0 then
    (Option.bind (f_X10_withLetter F S8 v1 r5) fun z12 => lt z12.1 fun r14 => lt z12.2 fun S13 =>
    lt (v3 + 1) fun x16 =>
    (fun a0 a1 a2 a3 => f_X0_wholeWord_L4 F fu a0 a1 a2 a3) S13 v0 r14 x16)
    else
    (some (0, S8)))
def f_X0_wholeWord (F : Nat) (S0 : St) (p0 : Nat) : Option (Int64 × St) :=
  f_X0_wholeWord_L4 F F S0 p0 0 0
def f_X8_liveWithWord_L38 (F : Nat) (k6 : St → Nat → Int32 → Int64 → Int32 → Int32 → Option (Int32 × St)) (S0 : St) (v0 : Nat) (v1 : Int32) (v2 : Int64) (v4 : Int32) (v5 : Int32) : Option (Int32 × St) :=
  lt (v5 + 1) fun x1 =>
  k6 S0 v0 v1 v2 v4 x1
def f_X8_liveWithWord_L6 (F : Nat) : Nat → St → Nat → Int32 → Int64 → Int32 → Int32 → Option (Int32 × St)
  | 0, _, _, _, _, _, _ => none
  | fu + 1, S0, v0, v1, v2, v4, v5 =>
    if (si S0 705 v0) ≤ v5 then
    (some (v4, S0))
    else
    (Option.bind (f_X8_stateOf F S0 v0 v5 v1) fun z4 => lt z4.1 fun r6 => lt z4.2 fun S5 =>
    if ¬ r6 = 0 then
    (f_X8_liveWithWord_L38 F (fun a0 a1 a2 a3 a4 a5 => f_X8_liveWithWord_L6 F fu a0 a1 a2 a3 a4 a5) S5 v0 v1 v2 v4 v5)
    else
    (Option.bind (f_X8_hasWord F S5 v0 v5 v2) fun z9 => lt z9.1 fun r11 => lt z9.2 fun S10 =>
    if r11 = 0 then
    (f_X8_liveWithWord_L38 F (fun a0 a1 a2 a3 a4 a5 => f_X8_liveWithWord_L6 F fu a0 a1 a2 a3 a4 a5) S10 v0 v1 v2 v4 v5)
    else
    (lt (v4 + 1) fun x14 =>
    f_X8_liveWithWord_L38 F (fun a0 a1 a2 a3 a4 a5 => f_X8_liveWithWord_L6 F fu a0 a1 a2 a3 a4 a5) S10 v0 v1 v2 x14 v5)))
def f_X8_liveWithWord (F : Nat) (S0 : St) (p0 : Nat) (p1 : Int32) (p2 : Int64) : Option (Int32 × St) :=
  f_X8_liveWithWord_L6 F F S0 p0 p1 p2 0 0
def f_X10_matches (F : Nat) (S0 : St) (p0 : Nat) (p1 : Int32) : Option ((Nat ⊕ Int32) × St) :=
  Option.bind (f_X10_needUser F S0 p0 p1) fun z1 => lt z1.2 fun S2 =>
  sm z1.1 (fun x => some (.inl x, S2)) (fun r3 =>
  Option.bind (sr S2 900 p0) fun j5 =>
  Option.bind (f_X0_wholeWord F S2 j5) fun z6 => lt z6.1 fun r8 => lt z6.2 fun S7 =>
  if ¬ (lg_cmp r8 0) = 0 then
  (Option.bind (sr S7 900 p0) fun j11 =>
  Option.bind (f_X0_cutTo F S7 j11 ((0 : Int32))) fun S13 =>
  Option.bind (sr S13 905 p0) fun j16 =>
  Option.bind (f_X8_liveWithWord F S13 j16 p1 r8) fun z17 => lt z17.1 fun r19 => lt z17.2 fun S18 =>
  some (.inr r19, S18))
  else
  (some (.inl 2, S7)))
def f_X10_commonBytes_L82 (F : Nat) (k26 : St → Nat → Int32 → Int32 → Int32 → Int32 → Option ((Nat ⊕ Int32) × St)) (S0 : St) (v0 : Nat) (v1 : Int32) (v2 : Int32) (v3 : Int32) (v4 : Int32) : Option ((Nat ⊕ Int32) × St) :=
  lt (v4 + 1) fun x1 =>
  k26 S0 v0 v1 v2 v3 x1
def f_X10_commonBytes_L26 (F : Nat) : Nat → St → Nat → Int32 → Int32 → Int32 → Int32 → Option ((Nat ⊕ Int32) × St)
  | 0, _, _, _, _, _, _ => none
  | fu + 1, S0, v0, v1, v2, v3, v4 =>
    Option.bind (sr S0 910 v0) fun j3 =>
    if (nI (ln S0 j3)) ≤ v4 then
    (some (.inr v3, S0))
    else
    (Option.bind (sr S0 910 v0) fun j5 =>
    cki v4 (ln S0 j5) <|
    Option.bind (f_X10_hasBit F S0 (ai S0 j5 (Int32.toNatClampNeg v4)) v1) fun z7 => lt z7.1 fun r9 => lt z7.2 fun S8 =>
    if r9 = 0 then
    (f_X10_commonBytes_L82 F (fun a0 a1 a2 a3 a4 a5 => f_X10_commonBytes_L26 F fu a0 a1 a2 a3 a4 a5) S8 v0 v1 v2 v3 v4)
    else
    (Option.bind (sr S8 910 v0) fun j12 =>
    cki v4 (ln S8 j12) <|
    Option.bind (f_X10_hasBit F S8 (ai S8 j12 (Int32.toNatClampNeg v4)) v2) fun z14 => lt z14.1 fun r16 => lt z14.2 fun S15 =>
    if r16 = 0 then
    (f_X10_commonBytes_L82 F (fun a0 a1 a2 a3 a4 a5 => f_X10_commonBytes_L26 F fu a0 a1 a2 a3 a4 a5) S15 v0 v1 v2 v3 v4)
    else
    (Option.bind (sr S15 905 v0) fun j19 =>
    Option.bind (sr S15 710 j19) fun j20 =>
    Option.bind (f_X9_bytesOf F S15 j20 v4) fun z21 => lt z21.1 fun r23 => lt z21.2 fun S22 =>
    Option.bind r23 fun j25 =>
    lt (v3 + (si S22 1 j25)) fun x26 =>
    f_X10_commonBytes_L82 F (fun a0 a1 a2 a3 a4 a5 => f_X10_commonBytes_L26 F fu a0 a1 a2 a3 a4 a5) S22 v0 v1 v2 x26 v4)))
def f_X10_commonBytes (F : Nat) (S0 : St) (p0 : Nat) (p1 : Int32) (p2 : Int32) : Option ((Nat ⊕ Int32) × St) :=
  Option.bind (f_X10_needUser F S0 p0 p1) fun z51 => lt z51.2 fun S52 =>
  sm z51.1 (fun x => some (.inl x, S52)) (fun r53 =>
  Option.bind (f_X10_needUser F S52 p0 p2) fun z55 => lt z55.2 fun S56 =>
  sm z55.1 (fun x => some (.inl x, S56)) (fun r57 =>
  Option.bind (sr S56 905 p0) fun j59 =>
  Option.bind (sr S56 910 p0) fun j60 =>
  Option.bind (f_X8_gatherReaders F S56 j59 j60) fun S62 =>
  f_X10_commonBytes_L26 F F S62 p0 p1 p2 0 0))
def f_X10_eventCount (F : Nat) (S0 : St) (p0 : Nat) : Option (Int32 × St) :=
  Option.bind (sr S0 905 p0) fun j1 =>
  Option.bind (sr S0 711 j1) fun j2 =>
  some (si S0 204 j2, S0)
def f_X10_undoCount (F : Nat) (S0 : St) (p0 : Nat) : Option (Int32 × St) :=
  some (si S0 909 p0, S0)
def f_L_draw (F : Nat) (S0 : St) (p0 : XS) (p1 : Int32) (p2 : Int32) : Option (Int32 × St) :=
  if (Int32.ofNat p0.2) ≤ p1 then
  (ck (¬ p2 = 0) <|
  some ((0 &&& 2147483647) - (0 &&& 2147483647) / p2 * p2, S0))
  else
  (cki p1 p0.2 <|
  ck (¬ p2 = 0) <|
  some (((p0.1 (Int32.toNatClampNeg p1)) &&& 2147483647) - ((p0.1 (Int32.toNatClampNeg p1)) &&& 2147483647) / p2 * p2, S0))
def f_J0_coder_7d493 (F : Nat) (S0 : St) (p0 : Nat) : Option (Int32 × St) :=
  if (1 : Int32) = 0 then
  (some (1, S0))
  else
  (ck (sco S0 p0 = 0 ∨ sco S0 p0 = 1) <| some (sco S0 p0, S0))
def f_J0_length_8abf5 (F : Nat) (S0 : St) (p0 : Nat) : Option (Int32 × St) :=
  Option.bind (sva S0 p0) fun y1 =>
  Option.bind (f_J0_coder_7d493 F S0 p0) fun z2 => lt z2.1 fun r4 => lt z2.2 fun S3 =>
  some ((nI (sln S0 y1)) >>> (r4 &&& 31), S3)
def f_J0_isLatin1_aae02 (F : Nat) (S0 : St) (p0 : Nat) : Option (Int32 × St) :=
  if (1 : Int32) = 0 then
  (some (0, S0))
  else
  (if ¬ (sco S0 p0) = 0 then
  (some (0, S0))
  else
  (some (1, S0)))
def f_J3_checkIndex_8e157 (F : Nat) (S0 : St) (p0 : Int32) (p1 : Int32) : Option (Int32 × St) :=
  if p0 < 0 then
  (none)
  else
  (if p0 < p1 then
  (some (p0, S0))
  else
  (none))
def f_J0_checkIndex_df160 (F : Nat) (S0 : St) (p0 : Int32) (p1 : Int32) : Option (St) :=
  Option.bind (f_J3_checkIndex_8e157 F S0 p0 p1) fun z2 => lt z2.1 fun r4 => lt z2.2 fun S3 =>
  some S3
def f_J1_charAt_3b067 (F : Nat) (S0 : St) (p0 : Nat) (p1 : Int32) : Option (Int32 × St) :=
  Option.bind (f_J0_checkIndex_df160 F S0 p1 (nI (sln S0 p0))) fun S2 =>
  cki p1 (sln S2 p0) <|
  ck (((((sby S2 p0 (Int32.toNatClampNeg p1)) &&& 255).toUInt32 % 65536).toInt32).toUInt32.toUInt16.toUInt32.toInt32 = (((sby S2 p0 (Int32.toNatClampNeg p1)) &&& 255).toUInt32 % 65536).toInt32) <| some ((((sby S2 p0 (Int32.toNatClampNeg p1)) &&& 255).toUInt32 % 65536).toInt32, S2)
def f_J2_length_9d52b (F : Nat) (S0 : St) (p0 : Nat) : Option (Int32 × St) :=
  some ((nI (ln S0 p0)) >>> (1 &&& 31), S0)
def f_J0_charAt_5068e (F : Nat) (S0 : St) (p0 : Nat) (p1 : Int32) : Option (Int32 × St) :=
  Option.bind (f_J0_isLatin1_aae02 F S0 p0) fun z1 => lt z1.1 fun r3 => lt z1.2 fun S2 =>
  if r3 = 0 then
  (Option.bind (sva S2 p0) fun y6 =>
  none)
  else
  (Option.bind (sva S2 p0) fun y7 =>
  Option.bind (f_J1_charAt_3b067 F S2 y7 p1) fun z8 => lt z8.1 fun r10 => lt z8.2 fun S9 =>
  ck (r10.toUInt32.toUInt16.toUInt32.toInt32 = r10) <| some (r10, S9))
def f_L_four_L34 (F : Nat) (k4 : St → Nat → Int32 → Int32 → Int32 → Option (Int32 × St)) (S0 : St) (v0 : Nat) (v1 : Int32) (v3 : Int32) (s0 : Int32) (s1 : Int32) : Option (Int32 × St) :=
  lt (s1 ||| s0) fun x1 =>
  lt (v3 + 1) fun x2 =>
  k4 S0 v0 v1 x1 x2
def f_L_four_L4 (F : Nat) : Nat → St → Nat → Int32 → Int32 → Int32 → Option (Int32 × St)
  | 0, _, _, _, _, _ => none
  | fu + 1, S0, v0, v1, v2, v3 =>
    if 4 ≤ v3 then
    (some (v2, S0))
    else
    (Option.bind (f_J0_length_8abf5 F S0 v0) fun z6 => lt z6.1 fun r8 => lt z6.2 fun S7 =>
    if r8 ≤ (v1 + v3) then
    (f_L_four_L34 F (fun a0 a1 a2 a3 a4 => f_L_four_L4 F fu a0 a1 a2 a3 a4) S7 v0 v1 v3 0 (v2 <<< (8 &&& 31)))
    else
    (Option.bind (f_J0_charAt_5068e F S7 v0 (v1 + v3)) fun z11 => lt z11.1 fun r13 => lt z11.2 fun S12 =>
    f_L_four_L34 F (fun a0 a1 a2 a3 a4 => f_L_four_L4 F fu a0 a1 a2 a3 a4) S12 v0 v1 v3 r13 (v2 <<< (8 &&& 31))))
def f_L_four (F : Nat) (S0 : St) (p0 : Nat) (p1 : Int32) : Option (Int32 × St) :=
  f_L_four_L4 F F S0 p0 p1 0 0
def f_L_feed_L16 (F : Nat) (k4 : St → Nat → Nat → Int32 → Int32 → Option (St)) (S0 : St) (v0 : Nat) (v1 : Nat) (v3 : Int32) : Option (St) :=
  Option.bind (f_L_four F S0 v1 v3) fun z1 => lt z1.1 fun r3 => lt z1.2 fun S2 =>
  Option.bind (f_L_four F S2 v1 (v3 + 4)) fun z5 => lt z5.1 fun r7 => lt z5.2 fun S6 =>
  Option.bind (f_L_four F S6 v1 (v3 + 8)) fun z9 => lt z9.1 fun r11 => lt z9.2 fun S10 =>
  Option.bind (f_L_four F S10 v1 (v3 + 12)) fun z13 => lt z13.1 fun r15 => lt z13.2 fun S14 =>
  Option.bind (f_L_four F S14 v1 (v3 + 16)) fun z17 => lt z17.1 fun r19 => lt z17.2 fun S18 =>
  Option.bind (f_X10_append F S18 v0 r3 r7 r11 r15 r19) fun z21 => lt z21.2 fun S22 =>
  sm z21.1 (fun _ => none) (fun r23 =>
  lt (v3 + 20) fun x25 =>
  k4 S22 v0 v1 r23 x25)
def f_L_feed_L4 (F : Nat) : Nat → St → Nat → Nat → Int32 → Int32 → Option (St)
  | 0, _, _, _, _, _ => none
  | fu + 1, S0, v0, v1, v2, v3 =>
    Option.bind (f_J0_length_8abf5 F S0 v1) fun z51 => lt z51.1 fun r53 => lt z51.2 fun S52 =>
    if v3 < r53 then
    (f_L_feed_L16 F (fun a0 a1 a2 a3 a4 => f_L_feed_L4 F fu a0 a1 a2 a3 a4) S52 v0 v1 v3)
    else
    (if ¬ v3 = 0 then
    (Option.bind (f_J0_length_8abf5 F S52 v1) fun z57 => lt z57.1 fun r59 => lt z57.2 fun S58 =>
    Option.bind (f_X10_truncate F S58 v0 (if r59 < v2 then r59 else v2)) fun z61 => lt z61.2 fun S62 =>
    sm z61.1 (fun _ => none) (fun r63 =>
    some S62))
    else
    (f_L_feed_L16 F (fun a0 a1 a2 a3 a4 => f_L_feed_L4 F fu a0 a1 a2 a3 a4) S52 v0 v1 v3))
def f_L_feed (F : Nat) (S0 : St) (p0 : Nat) (p1 : Nat) : Option (St) :=
  f_L_feed_L4 F F S0 p0 p1 0 0
def f_L_grace (F : Nat) (S0 : St) (p0 : XS) : Option (Int32 × St) :=
  Option.bind (f_L_draw F S0 p0 ((0 : Int32)) ((6 : Int32))) fun z1 => lt z1.1 fun r3 => lt z1.2 fun S2 =>
  some (r3, S2)
def f_L_interval (F : Nat) (S0 : St) (p0 : XS) : Option (Int32 × St) :=
  Option.bind (f_L_draw F S0 p0 ((1 : Int32)) ((5 : Int32))) fun z1 => lt z1.1 fun r3 => lt z1.2 fun S2 =>
  some (1 + r3, S2)
def f_L_classes (F : Nat) (S0 : St) (p0 : XS) : Option (Int32 × St) :=
  Option.bind (f_L_draw F S0 p0 ((2 : Int32)) ((4 : Int32))) fun z1 => lt z1.1 fun r3 => lt z1.2 fun S2 =>
  some (1 + r3, S2)
def f_L_users (F : Nat) (S0 : St) (p0 : XS) : Option (Int32 × St) :=
  Option.bind (f_L_draw F S0 p0 ((3 : Int32)) ((3 : Int32))) fun z1 => lt z1.1 fun r3 => lt z1.2 fun S2 =>
  some (1 + r3, S2)
def f_L_holds (F : Nat) (S0 : St) (p0 : XS) : Option (Int32 × St) :=
  Option.bind (f_L_draw F S0 p0 ((4 : Int32)) ((3 : Int32))) fun z1 => lt z1.1 fun r3 => lt z1.2 fun S2 =>
  some (r3, S2)
def f_L_days (F : Nat) (S0 : St) (p0 : XS) (p1 : Int32) : Option (Int32 × St) :=
  Option.bind (f_L_draw F S0 p0 (10 + (4 * p1)) ((6 : Int32))) fun z1 => lt z1.1 fun r3 => lt z1.2 fun S2 =>
  if ¬ r3 = 0 then
  (Option.bind (f_L_draw F S2 p0 (11 + (4 * p1)) ((12 : Int32))) fun z6 => lt z6.1 fun r8 => lt z6.2 fun S7 =>
  some (1 + r8, S7))
  else
  (some ((-1), S2))
def f_L_keep (F : Nat) (S0 : St) (p0 : XS) (p1 : Int32) : Option (Int32 × St) :=
  Option.bind (f_L_draw F S0 p0 (12 + (4 * p1)) ((4 : Int32))) fun z1 => lt z1.1 fun r3 => lt z1.2 fun S2 =>
  some (r3 - r3 / 3 * 3, S2)
def f_L_then (F : Nat) (S0 : St) (p0 : XS) (p1 : Int32) : Option (Int32 × St) :=
  if p1 = 0 then
  (some ((-1), S0))
  else
  (Option.bind (f_L_draw F S0 p0 (13 + (4 * p1)) ((2 : Int32))) fun z2 => lt z2.1 fun r4 => lt z2.2 fun S3 =>
  if ¬ r4 = 0 then
  (Option.bind (f_L_draw F S3 p0 (13 + (4 * p1)) (2 * p1)) fun z7 => lt z7.1 fun r9 => lt z7.2 fun S8 =>
  some (r9 / 2, S8))
  else
  (some ((-1), S3)))
def f_L_classOf (F : Nat) (S0 : St) (p0 : XS) (p1 : Int32) : Option (Int32 × St) :=
  Option.bind (f_L_classes F S0 p0) fun z1 => lt z1.1 fun r3 => lt z1.2 fun S2 =>
  Option.bind (f_L_draw F S2 p0 (30 + (2 * p1)) r3) fun z5 => lt z5.1 fun r7 => lt z5.2 fun S6 =>
  some (r7, S6)
def f_L_quota (F : Nat) (S0 : St) (p0 : XS) (p1 : Int32) : Option (Int32 × St) :=
  Option.bind (f_L_draw F S0 p0 (31 + (2 * p1)) ((90 : Int32))) fun z1 => lt z1.1 fun r3 => lt z1.2 fun S2 =>
  some (10 + r3, S2)
def f_L_holder (F : Nat) (S0 : St) (p0 : XS) (p1 : Int32) : Option (Int32 × St) :=
  Option.bind (f_L_users F S0 p0) fun z1 => lt z1.1 fun r3 => lt z1.2 fun S2 =>
  Option.bind (f_L_draw F S2 p0 (40 + (4 * p1)) r3) fun z5 => lt z5.1 fun r7 => lt z5.2 fun S6 =>
  some (r7, S6)
def f_L_hasDays (F : Nat) (S0 : St) (p0 : XS) (p1 : Int32) : Option (Int32 × St) :=
  Option.bind (f_L_draw F S0 p0 (41 + (4 * p1)) ((2 : Int32))) fun z1 => lt z1.1 fun r3 => lt z1.2 fun S2 =>
  if ¬ r3 = 0 then
  (some (0, S2))
  else
  (some (1, S2))
def f_L_hasWord (F : Nat) (S0 : St) (p0 : XS) (p1 : Int32) : Option (Int32 × St) :=
  Option.bind (f_L_draw F S0 p0 (42 + (4 * p1)) ((2 : Int32))) fun z1 => lt z1.1 fun r3 => lt z1.2 fun S2 =>
  if ¬ r3 = 0 then
  (some (0, S2))
  else
  (some (1, S2))
def f_J8_newLength_cabcc_L21 (F : Nat) (S0 : St) (v0 : Int32) (v1 : Int32) : Option (Int32 × St) :=
  none
def f_J8_newLength_cabcc (F : Nat) (S0 : St) (p0 : Int32) (p1 : Int32) (p2 : Int32) : Option (Int32 × St) :=
  lt (p0 + (if p1 < p2 then p2 else p1)) fun x1 =>
  if x1 ≤ 0 then
  (f_J8_newLength_cabcc_L21 F S0 p0 p1)
  else
  (if 2147483639 < x1 then
  (f_J8_newLength_cabcc_L21 F S0 p0 p1)
  else
  (some (x1, S0)))
def f_J5_newCapacity_0f7a4 (F : Nat) (S0 : St) (p0 : Nat) (p1 : Int32) : Option (Int32 × St) :=
  Option.bind (sr S0 1000 p0) fun j1 =>
  lt (nI (ln S0 j1)) fun x2 =>
  lt (p1 <<< ((si S0 1001 p0) &&& 31)) fun x3 =>
  lt (x3 - x2) fun x4 =>
  Option.bind (f_J8_newLength_cabcc F S0 x2 x4 (x2 + (2 <<< ((si S0 1001 p0) &&& 31)))) fun z5 => lt z5.1 fun r7 => lt z5.2 fun S6 =>
  if ¬ r7 = 2147483647 then
  (some (r7 >>> ((si S6 1001 p0) &&& 31), S6))
  else
  (none)
def f_J7_copyOf_9075b (F : Nat) (S0 : St) (n : Nat) (p0 : Nat) (p1 : Int32) : Option (Option Nat × St × Nat) :=
  if ¬ p1 = (nI (ln S0 p0)) then
  (ck (¬ p1 < 0 ∧ Int32.toNatClampNeg p1 ≤ 1024) <|
  lt (nar S0 n (Int32.toNatClampNeg p1)) fun S5 => lt (n + 1) fun n6 =>
  ck (¬ (0 : Int32) < 0 ∧ ¬ (0 : Int32) < 0 ∧ ¬ (if p1 < (nI (ln S5 p0)) then p1 else (nI (ln S5 p0))) < 0 ∧ Int32.toNatClampNeg (0 : Int32) + Int32.toNatClampNeg (if p1 < (nI (ln S5 p0)) then p1 else (nI (ln S5 p0))) ≤ sln S5 (p0 + 41) ∧ Int32.toNatClampNeg (0 : Int32) + Int32.toNatClampNeg (if p1 < (nI (ln S5 p0)) then p1 else (nI (ln S5 p0))) ≤ ln S5 n ∧ ∀ k, k < Int32.toNatClampNeg (if p1 < (nI (ln S5 p0)) then p1 else (nI (ln S5 p0))) → (Int32.toInt8 (sby S5 (p0 + 41) (Int32.toNatClampNeg (0 : Int32) + k))).toInt32 = sby S5 (p0 + 41) (Int32.toNatClampNeg (0 : Int32) + k)) <|
  lt (sai S5 n (va_cpy (sby S5 (p0 + 41)) (ai S5 n) (Int32.toNatClampNeg (0 : Int32)) (Int32.toNatClampNeg (0 : Int32)) (Int32.toNatClampNeg (if p1 < (nI (ln S5 p0)) then p1 else (nI (ln S5 p0)))))) fun S13 =>
  some ((some n), S13, n6))
  else
  (ck (ln S0 p0 ≤ 1024 ∧ ∀ k, k < ln S0 p0 → (Int32.toInt8 (ai S0 p0 k)).toInt32 = ai S0 p0 k) <|
  lt (sai (nar S0 n (ln S0 p0)) n (ai S0 p0)) fun S17 => lt (n + 1) fun n18 =>
  some ((some n), S17, n18))
def f_J5_ensureCapacityInternal_d00df (F : Nat) (S0 : St) (n : Nat) (p0 : Nat) (p1 : Int32) : Option (St × Nat) :=
  Option.bind (sr S0 1000 p0) fun j1 =>
  lt ((nI (ln S0 j1)) >>> ((si S0 1001 p0) &&& 31)) fun x2 =>
  if (p1 - x2) ≤ 0 then
  (some (S0, n))
  else
  (Option.bind (sr S0 1000 p0) fun j4 =>
  Option.bind (f_J5_newCapacity_0f7a4 F S0 p0 p1) fun z5 => lt z5.1 fun r7 => lt z5.2 fun S6 =>
  Option.bind (f_J7_copyOf_9075b F S6 n j4 (r7 <<< ((si S6 1001 p0) &&& 31))) fun z9 => lt z9.1 fun r11 => lt z9.2.1 fun S10 => lt z9.2.2 fun n12 =>
  Option.bind r11 fun j19 =>
  lt (ur S10 1000 p0 (some j19)) fun S20 =>
  some (S20, n12))
def f_J5_isLatin1_aae02 (F : Nat) (S0 : St) (p0 : Nat) : Option (Int32 × St) :=
  if (1 : Int32) = 0 then
  (some (0, S0))
  else
  (if ¬ (si S0 1001 p0) = 0 then
  (some (0, S0))
  else
  (some (1, S0)))
def f_J5_inflateIfNeededFor_a7421 (F : Nat) (S0 : St) (p0 : Nat) (p1 : Nat) : Option (St) :=
  if (1 : Int32) = 0 then
  (some S0)
  else
  (Option.bind (f_J0_coder_7d493 F S0 p1) fun z2 => lt z2.1 fun r4 => lt z2.2 fun S3 =>
  if (si S0 1001 p0) = r4 then
  (some S3)
  else
  (none))
def f_J0_getBytes_840e7 (F : Nat) (S0 : St) (p0 : Nat) (p1 : Nat) (p2 : Int32) (p3 : Int32) : Option (St) :=
  Option.bind (f_J0_coder_7d493 F S0 p0) fun z1 => lt z1.1 fun r3 => lt z1.2 fun S2 =>
  if ¬ r3 = p3 then
  (Option.bind (sva S2 p0) fun y6 =>
  Option.bind (sva S2 p0) fun y7 =>
  none)
  else
  (Option.bind (sva S2 p0) fun y8 =>
  Option.bind (sva S2 p0) fun y9 =>
  ck (¬ (0 : Int32) < 0 ∧ ¬ (p2 <<< (p3 &&& 31)) < 0 ∧ ¬ (nI (sln S2 y9)) < 0 ∧ Int32.toNatClampNeg (0 : Int32) + Int32.toNatClampNeg (nI (sln S2 y9)) ≤ sln S2 y8 ∧ Int32.toNatClampNeg (p2 <<< (p3 &&& 31)) + Int32.toNatClampNeg (nI (sln S2 y9)) ≤ ln S2 p1 ∧ ∀ k, k < Int32.toNatClampNeg (nI (sln S2 y9)) → (Int32.toInt8 (sby S2 y8 (Int32.toNatClampNeg (0 : Int32) + k))).toInt32 = sby S2 y8 (Int32.toNatClampNeg (0 : Int32) + k)) <|
  lt (sai S2 p1 (va_cpy (sby S2 y8) (ai S2 p1) (Int32.toNatClampNeg (0 : Int32)) (Int32.toNatClampNeg (p2 <<< (p3 &&& 31))) (Int32.toNatClampNeg (nI (sln S2 y9))))) fun S11 =>
  some S11)
def f_J5_putStringAt_47b60 (F : Nat) (S0 : St) (p0 : Nat) (p1 : Int32) (p2 : Nat) : Option (St) :=
  Option.bind (f_J5_inflateIfNeededFor_a7421 F S0 p0 p2) fun S2 =>
  Option.bind (sr S2 1000 p0) fun j5 =>
  Option.bind (f_J0_getBytes_840e7 F S2 p2 j5 p1 (si S2 1001 p0)) fun S7 =>
  some S7
def f_J5_append_cf1ce (F : Nat) (S0 : St) (n : Nat) (p0 : Nat) (p1 : Nat) : Option (Option Nat × St × Nat) :=
  Option.bind (f_J0_length_8abf5 F S0 p1) fun z1 => lt z1.1 fun r3 => lt z1.2 fun S2 =>
  Option.bind (f_J5_ensureCapacityInternal_d00df F S2 n p0 ((si S2 1003 p0) + r3)) fun z5 => lt z5.1 fun S6 => lt z5.2 fun n8 =>
  Option.bind (f_J5_putStringAt_47b60 F S6 p0 (si S6 1003 p0) p1) fun S18 =>
  lt (ui S18 1003 p0 ((si S18 1003 p0) + r3)) fun S21 =>
  some ((some p0), S21, n8)
def f_J4_append_15ec4 (F : Nat) (S0 : St) (n : Nat) (p0 : Nat) (p1 : Nat) : Option (Option Nat × St × Nat) :=
  Option.bind (f_J5_append_cf1ce F S0 n p0 p1) fun z1 => lt z1.1 fun r3 => lt z1.2.1 fun S2 => lt z1.2.2 fun n4 =>
  Option.bind r3 fun j13 =>
  some ((some p0), S2, n4)
def f_J4_append_cf1ce (F : Nat) (S0 : St) (n : Nat) (p0 : Nat) (p1 : Nat) : Option (Option Nat × St × Nat) :=
  Option.bind (f_J4_append_15ec4 F S0 n p0 p1) fun z1 => lt z1.1 fun r3 => lt z1.2.1 fun S2 => lt z1.2.2 fun n4 =>
  Option.bind r3 fun j13 =>
  some ((some j13), S2, n4)
def f_J5_init_a7421_L53 (F : Nat) (S0 : St) (nL : Nat) (v0 : Nat) (v1 : Nat) (s0 : Nat) (s1 : Nat) : Option (St × Nat) :=
  lt (ur S0 1000 s1 (some s0)) fun S1 =>
  Option.bind (f_J4_append_cf1ce F S1 nL v0 v1) fun z2 => lt z2.1 fun r4 => lt z2.2.1 fun S3 => lt z2.2.2 fun n5 =>
  Option.bind r4 fun j14 =>
  some (S3, n5)
def f_J5_init_a7421_L24 (F : Nat) (S0 : St) (nL : Nat) (v0 : Nat) (v1 : Nat) (s0 : Int32) : Option (St × Nat) :=
  Option.bind (f_J0_coder_7d493 F S0 v1) fun z29 => lt z29.1 fun r31 => lt z29.2 fun S30 =>
  ck (r31 = 0 ∨ r31 = 1) <|
  lt (ui S30 1001 v0 r31) fun S34 =>
  if ¬ r31 = 0 then
  (none)
  else
  (ck (¬ s0 < 0 ∧ Int32.toNatClampNeg s0 ≤ 64) <|
  lt (nar S34 nL (Int32.toNatClampNeg s0)) fun S39 => lt (nL + 1) fun n40 =>
  f_J5_init_a7421_L53 F S39 n40 v0 v1 nL v0)
def f_J5_init_a7421 (F : Nat) (S0 : St) (n : Nat) (p0 : Nat) (p1 : Nat) : Option (St × Nat) :=
  Option.bind (f_J0_length_8abf5 F S0 p1) fun z67 => lt z67.1 fun r69 => lt z67.2 fun S68 =>
  if 2147483631 ≤ r69 then
  (f_J5_init_a7421_L24 F S68 n p0 p1 2147483647)
  else
  (f_J5_init_a7421_L24 F S68 n p0 p1 (r69 + 16))
def f_J4_init_a7421 (F : Nat) (S0 : St) (n : Nat) (p0 : Nat) (p1 : Nat) : Option (St × Nat) :=
  Option.bind (f_J5_init_a7421 F S0 n p0 p1) fun z1 => lt z1.1 fun S2 => lt z1.2 fun n4 =>
  some (S2, n4)
def f_J6_stringSize_0f7a4_L16 (F : Nat) : Nat → St → Int32 → Int32 → Int32 → Int32 → Option (Int32 × St)
  | 0, _, _, _, _, _ => none
  | fu + 1, S0, v0, v1, v2, v3 =>
    if 10 ≤ v3 then
    (some (10 + v1, S0))
    else
    (if v0 ≤ v2 then
    (lt (10 * v2) fun x3 =>
    lt (v3 + 1) fun x4 =>
    (fun a0 a1 a2 a3 a4 => f_J6_stringSize_0f7a4_L16 F fu a0 a1 a2 a3 a4) S0 v0 v1 x3 x4)
    else
    (some (v3 + v1, S0)))
def f_J6_stringSize_0f7a4_L11 (F : Nat) (S0 : St) (v0 : Int32) (v1 : Int32) : Option (Int32 × St) :=
  lt ((-10)) fun x9 =>
  f_J6_stringSize_0f7a4_L16 F F S0 v0 v1 x9 1
def f_J6_stringSize_0f7a4 (F : Nat) (S0 : St) (p0 : Int32) : Option (Int32 × St) :=
  if p0 < 0 then
  (f_J6_stringSize_0f7a4_L11 F S0 p0 1)
  else
  (lt (-p0) fun x12 =>
  f_J6_stringSize_0f7a4_L11 F S0 x12 0)
def f_J6_getChars_ba4f3_L104 (F : Nat) (S0 : St) (v2 : Nat) (v5 : Int32) (v6 : Int32) : Option (Int32 × St) :=
  if v6 = 0 then
  (some (v5, S0))
  else
  (lt (v5 + (-1)) fun x2 =>
  cki x2 (ln S0 v2) <|
  lt (uai S0 v2 (Int32.toNatClampNeg x2) (Int32.toInt8 45).toInt32) fun S4 =>
  some (x2, S4))
def f_J6_getChars_ba4f3_L22 (F : Nat) : Nat → St → Int32 → Nat → Int32 → Int32 → Option (Int32 × St)
  | 0, _, _, _, _, _ => none
  | fu + 1, S0, v0, v2, v5, v6 =>
    if ((-100)) < v0 then
    (lt (v5 + (-1)) fun x10 =>
    cki (-v0) 100 <|
    cki x10 (ln S0 v2) <|
    lt (uai S0 v2 (Int32.toNatClampNeg x10) (Int32.toInt8 (dgO.getD (Int32.toNatClampNeg (-v0)) 0)).toInt32) fun S13 =>
    if ((-9)) ≤ v0 then
    (f_J6_getChars_ba4f3_L104 F S13 v2 x10 v6)
    else
    (lt (x10 + (-1)) fun x15 =>
    cki (-v0) 100 <|
    cki x15 (ln S13 v2) <|
    lt (uai S13 v2 (Int32.toNatClampNeg x15) (Int32.toInt8 (dgT.getD (Int32.toNatClampNeg (-v0)) 0)).toInt32) fun S18 =>
    f_J6_getChars_ba4f3_L104 F S18 v2 x15 v6))
    else
    (lt (v0 / 100) fun x19 =>
    lt ((x19 * 100) - v0) fun x20 =>
    lt (v5 + (-1)) fun x21 =>
    cki x20 100 <|
    cki x21 (ln S0 v2) <|
    lt (uai S0 v2 (Int32.toNatClampNeg x21) (Int32.toInt8 (dgO.getD (Int32.toNatClampNeg x20) 0)).toInt32) fun S24 =>
    lt (x21 + (-1)) fun x25 =>
    cki x20 100 <|
    cki x25 (ln S24 v2) <|
    lt (uai S24 v2 (Int32.toNatClampNeg x25) (Int32.toInt8 (dgT.getD (Int32.toNatClampNeg x20) 0)).toInt32) fun S28 =>
    (fun a0 a1 a2 a3 a4 => f_J6_getChars_ba4f3_L22 F fu a0 a1 a2 a3 a4) S28 x19 v2 x25 v6)
def f_J6_getChars_ba4f3_L12 (F : Nat) (S0 : St) (v0 : Int32) (v2 : Nat) (v5 : Int32) (s0 : Int32) : Option (Int32 × St) :=
  if ¬ s0 = 0 then
  (f_J6_getChars_ba4f3_L22 F F S0 v0 v2 v5 s0)
  else
  (lt (-v0) fun x50 =>
  f_J6_getChars_ba4f3_L22 F F S0 x50 v2 v5 s0)
def f_J6_getChars_ba4f3 (F : Nat) (S0 : St) (p0 : Int32) (p1 : Int32) (p2 : Nat) : Option (Int32 × St) :=
  if 0 ≤ p0 then
  (f_J6_getChars_ba4f3_L12 F S0 p0 p2 p1 0)
  else
  (f_J6_getChars_ba4f3_L12 F S0 p0 p2 p1 1)
def f_J5_append_c97b9_L48 (F : Nat) (S0 : St) (nL : Nat) (v0 : Nat) (v3 : Int32) : Option (Option Nat × St × Nat) :=
  lt (ui S0 1003 v0 v3) fun S1 =>
  some ((some v0), S1, nL)
def f_J5_append_c97b9 (F : Nat) (S0 : St) (n : Nat) (p0 : Nat) (p1 : Int32) : Option (Option Nat × St × Nat) :=
  lt (si S0 1003 p0) fun x3 =>
  Option.bind (f_J6_stringSize_0f7a4 F S0 p1) fun z4 => lt z4.1 fun r6 => lt z4.2 fun S5 =>
  lt (x3 + r6) fun x8 =>
  Option.bind (f_J5_ensureCapacityInternal_d00df F S5 n p0 x8) fun z9 => lt z9.1 fun S10 => lt z9.2 fun n12 =>
  Option.bind (f_J5_isLatin1_aae02 F S10 p0) fun z19 => lt z19.1 fun r21 => lt z19.2 fun S20 =>
  if r21 = 0 then
  (Option.bind (sr S20 1000 p0) fun j24 =>
  none)
  else
  (Option.bind (sr S20 1000 p0) fun j25 =>
  Option.bind (f_J6_getChars_ba4f3 F S20 p1 x8 j25) fun z26 => lt z26.1 fun r28 => lt z26.2 fun S27 =>
  f_J5_append_c97b9_L48 F S27 n12 p0 x8)
def f_J4_append_bf812 (F : Nat) (S0 : St) (n : Nat) (p0 : Nat) (p1 : Int32) : Option (Option Nat × St × Nat) :=
  Option.bind (f_J5_append_c97b9 F S0 n p0 p1) fun z1 => lt z1.1 fun r3 => lt z1.2.1 fun S2 => lt z1.2.2 fun n4 =>
  Option.bind r3 fun j11 =>
  some ((some p0), S2, n4)
def f_J1_canEncode_fc78d (F : Nat) (S0 : St) (p0 : Int32) : Option (Int32 × St) :=
  if 255 < p0 then
  (some (0, S0))
  else
  (some (1, S0))
def f_J5_append_3fe6f_L56 (F : Nat) (S0 : St) (nL : Nat) (v0 : Nat) (v1 : Int32) : Option (Option Nat × St × Nat) :=
  Option.bind (sr S0 1000 v0) fun j1 =>
  lt (ui S0 1003 v0 ((si S0 1003 v0) + 1)) fun S2 =>
  none
def f_J5_append_3fe6f_L45 (F : Nat) (S0 : St) (nL : Nat) (v0 : Nat) (v1 : Int32) : Option (Option Nat × St × Nat) :=
  Option.bind (f_J5_isLatin1_aae02 F S0 v0) fun z5 => lt z5.1 fun r7 => lt z5.2 fun S6 =>
  if r7 = 0 then
  (f_J5_append_3fe6f_L56 F S6 nL v0 v1)
  else
  (none)
def f_J5_append_3fe6f (F : Nat) (S0 : St) (n : Nat) (p0 : Nat) (p1 : Int32) : Option (Option Nat × St × Nat) :=
  Option.bind (f_J5_ensureCapacityInternal_d00df F S0 n p0 ((si S0 1003 p0) + 1)) fun z15 => lt z15.1 fun S16 => lt z15.2 fun n18 =>
  Option.bind (f_J5_isLatin1_aae02 F S16 p0) fun z25 => lt z25.1 fun r27 => lt z25.2 fun S26 =>
  if r27 = 0 then
  (f_J5_append_3fe6f_L45 F S26 n18 p0 p1)
  else
  (Option.bind (f_J1_canEncode_fc78d F S26 p1) fun z30 => lt z30.1 fun r32 => lt z30.2 fun S31 =>
  if r32 = 0 then
  (f_J5_append_3fe6f_L45 F S31 n18 p0 p1)
  else
  (Option.bind (sr S31 1000 p0) fun j35 =>
  lt (ui S31 1003 p0 ((si S31 1003 p0) + 1)) fun S36 =>
  cki (si S31 1003 p0) (ln S36 j35) <|
  lt (uai S36 j35 (Int32.toNatClampNeg (si S31 1003 p0)) (Int32.toInt8 p1.toInt8.toInt32).toInt32) fun S38 =>
  some ((some p0), S38, n18)))
def f_J4_append_cf468 (F : Nat) (S0 : St) (n : Nat) (p0 : Nat) (p1 : Int32) : Option (Option Nat × St × Nat) :=
  Option.bind (f_J5_append_3fe6f F S0 n p0 p1) fun z1 => lt z1.1 fun r3 => lt z1.2.1 fun S2 => lt z1.2.2 fun n4 =>
  Option.bind r3 fun j11 =>
  some ((some p0), S2, n4)
def f_J5_getValue_6d5f1 (F : Nat) (S0 : St) (p0 : Nat) : Option (Option Nat × St) :=
  Option.bind (sr S0 1000 p0) fun j1 =>
  some ((some j1), S0)
def f_J5_length_8abf5 (F : Nat) (S0 : St) (p0 : Nat) : Option (Int32 × St) :=
  some (si S0 1003 p0, S0)
def f_J4_length_8abf5 (F : Nat) (S0 : St) (p0 : Nat) : Option (Int32 × St) :=
  Option.bind (f_J5_length_8abf5 F S0 p0) fun z1 => lt z1.1 fun r3 => lt z1.2 fun S2 =>
  some (r3, S2)
def f_J7_checkLength_df160 (F : Nat) (S0 : St) (p0 : Int32) (p1 : Int32) : Option (St) :=
  if p0 ≤ p1 then
  (some S0)
  else
  (none)
def f_J7_copyOfRangeByte_39247 (F : Nat) (S0 : St) (n : Nat) (p0 : Nat) (p1 : Int32) (p2 : Int32) : Option (Option Nat × St × Nat) :=
  Option.bind (f_J7_checkLength_df160 F S0 p1 p2) fun S2 =>
  lt (p2 - p1) fun x5 =>
  ck (¬ x5 < 0 ∧ Int32.toNatClampNeg x5 ≤ 1024) <|
  lt (nar S2 n (Int32.toNatClampNeg x5)) fun S9 => lt (n + 1) fun n10 =>
  ck (¬ p1 < 0 ∧ ¬ (0 : Int32) < 0 ∧ ¬ (if x5 < ((nI (ln S9 p0)) - p1) then x5 else ((nI (ln S9 p0)) - p1)) < 0 ∧ Int32.toNatClampNeg p1 + Int32.toNatClampNeg (if x5 < ((nI (ln S9 p0)) - p1) then x5 else ((nI (ln S9 p0)) - p1)) ≤ sln S9 (p0 + 41) ∧ Int32.toNatClampNeg (0 : Int32) + Int32.toNatClampNeg (if x5 < ((nI (ln S9 p0)) - p1) then x5 else ((nI (ln S9 p0)) - p1)) ≤ ln S9 n ∧ ∀ k, k < Int32.toNatClampNeg (if x5 < ((nI (ln S9 p0)) - p1) then x5 else ((nI (ln S9 p0)) - p1)) → (Int32.toInt8 (sby S9 (p0 + 41) (Int32.toNatClampNeg p1 + k))).toInt32 = sby S9 (p0 + 41) (Int32.toNatClampNeg p1 + k)) <|
  lt (sai S9 n (va_cpy (sby S9 (p0 + 41)) (ai S9 n) (Int32.toNatClampNeg p1) (Int32.toNatClampNeg (0 : Int32)) (Int32.toNatClampNeg (if x5 < ((nI (ln S9 p0)) - p1) then x5 else ((nI (ln S9 p0)) - p1))))) fun S17 =>
  some ((some n), S17, n10)
def f_J7_copyOfRange_39247_L10 (F : Nat) (S0 : St) (nL : Nat) (v0 : Nat) (v1 : Int32) (v2 : Int32) : Option (Option Nat × St × Nat) :=
  Option.bind (f_J7_copyOfRangeByte_39247 F S0 nL v0 v1 v2) fun z1 => lt z1.1 fun r3 => lt z1.2.1 fun S2 => lt z1.2.2 fun n4 =>
  Option.bind r3 fun j11 =>
  some ((some j11), S2, n4)
def f_J7_copyOfRange_39247 (F : Nat) (S0 : St) (n : Nat) (p0 : Nat) (p1 : Int32) (p2 : Int32) : Option (Option Nat × St × Nat) :=
  if ¬ p1 = 0 then
  (f_J7_copyOfRange_39247_L10 F S0 n p0 p1 p2)
  else
  (if p2 = (nI (ln S0 p0)) then
  (ck (ln S0 p0 ≤ 1024 ∧ ∀ k, k < ln S0 p0 → (Int32.toInt8 (ai S0 p0 k)).toInt32 = ai S0 p0 k) <|
  lt (sai (nar S0 n (ln S0 p0)) n (ai S0 p0)) fun S28 => lt (n + 1) fun n29 =>
  some ((some n), S28, n29))
  else
  (f_J7_copyOfRange_39247_L10 F S0 n p0 p1 p2))
def f_J0_init_db425_L79 (F : Nat) (S0 : St) (nL : Nat) (v0 : Nat) (v3 : Nat) (v4 : Int32) : Option (St × Nat) :=
  lt (ui S0 1801 v0 1) fun S1 =>
  Option.bind (f_J7_copyOfRange_39247 F S1 nL v3 ((0 : Int32)) (v4 <<< (1 &&& 31))) fun z2 => lt z2.1 fun r4 => lt z2.2.1 fun S3 => lt z2.2.2 fun n5 =>
  Option.bind r4 fun j14 =>
  lt (ur S3 1800 v0 (some j14)) fun S15 =>
  some (S15, n5)
def f_J0_init_db425 (F : Nat) (S0 : St) (n : Nat) (p0 : Nat) (p1 : Nat) : Option (St × Nat) :=
  Option.bind (f_J5_getValue_6d5f1 F S0 p1) fun z31 => lt z31.1 fun r33 => lt z31.2 fun S32 =>
  Option.bind r33 fun j35 =>
  Option.bind (f_J4_length_8abf5 F S32 p1) fun z36 => lt z36.1 fun r38 => lt z36.2 fun S37 =>
  Option.bind (f_J5_isLatin1_aae02 F S37 p1) fun z40 => lt z40.1 fun r42 => lt z40.2 fun S41 =>
  if r42 = 0 then
  (if (1 : Int32) = 0 then
  (f_J0_init_db425_L79 F S41 n p0 j35 r38)
  else
  (if (si S41 1002 p1) = 0 then
  (f_J0_init_db425_L79 F S41 n p0 j35 r38)
  else
  (none)))
  else
  (lt (ui S41 1801 p0 0) fun S47 =>
  Option.bind (f_J7_copyOfRange_39247 F S47 n j35 ((0 : Int32)) r38) fun z48 => lt z48.1 fun r50 => lt z48.2.1 fun S49 => lt z48.2.2 fun n51 =>
  Option.bind r50 fun j62 =>
  lt (ur S49 1800 p0 (some j62)) fun S63 =>
  some (S63, n51))
def f_J0_init_81219 (F : Nat) (S0 : St) (n : Nat) (p0 : Nat) (p1 : Nat) : Option (St × Nat) :=
  Option.bind (f_J0_init_db425 F S0 n p0 p1) fun z1 => lt z1.1 fun S2 => lt z1.2 fun n4 =>
  some (S2, n4)
def f_J4_toString_0e30d (F : Nat) (S0 : St) (n : Nat) (p0 : Nat) : Option (Nat × St × Nat) :=
  lt (nob S0 n) fun S4 => lt (n + 1) fun n5 =>
  Option.bind (f_J0_init_81219 F S4 n5 n p0) fun z10 => lt z10.1 fun S11 => lt z10.2 fun n13 =>
  some ((n + 41), S11, n13)
def f_L_text_L293 (F : Nat) (k223 : St → Nat → XS → Nat → Int32 → Option (Nat × St × Nat)) (S0 : St) (nL : Nat) (v0 : XS) (v1 : Nat) (v2 : Int32) : Option (Nat × St × Nat) :=
  Option.bind (f_J4_append_15ec4 F S0 nL v1 ((2 : Nat))) fun z1 => lt z1.1 fun r3 => lt z1.2.1 fun S2 => lt z1.2.2 fun n4 =>
  Option.bind r3 fun j11 =>
  lt (v2 + 1) fun x12 =>
  k223 S2 n4 v0 v1 x12
def f_L_text_L278 (F : Nat) (k223 : St → Nat → XS → Nat → Int32 → Option (Nat × St × Nat)) (S0 : St) (nL : Nat) (v0 : XS) (v1 : Nat) (v2 : Int32) : Option (Nat × St × Nat) :=
  Option.bind (f_L_hasWord F S0 v0 v2) fun z25 => lt z25.1 fun r27 => lt z25.2 fun S26 =>
  if r27 = 0 then
  (f_L_text_L293 F k223 S26 nL v0 v1 v2)
  else
  (Option.bind (f_J4_append_15ec4 F S26 nL v1 ((14 : Nat))) fun z30 => lt z30.1 fun r32 => lt z30.2.1 fun S31 => lt z30.2.2 fun n33 =>
  Option.bind r32 fun j40 =>
  f_L_text_L293 F k223 S31 n33 v0 v1 v2)
def f_L_text_L223 (F : Nat) : Nat → St → Nat → XS → Nat → Int32 → Option (Nat × St × Nat)
  | 0, _, _, _, _, _ => none
  | fu + 1, S0, nL, v0, v1, v2 =>
    Option.bind (f_L_holds F S0 v0) fun z57 => lt z57.1 fun r59 => lt z57.2 fun S58 =>
    if r59 ≤ v2 then
    (Option.bind (f_J4_toString_0e30d F S58 nL v1) fun z62 => lt z62.1 fun r64 => lt z62.2.1 fun S63 => lt z62.2.2 fun n65 =>
    some (r64, S63, n65))
    else
    (Option.bind (f_J4_append_15ec4 F S58 nL v1 ((11 : Nat))) fun z72 => lt z72.1 fun r74 => lt z72.2.1 fun S73 => lt z72.2.2 fun n75 =>
    Option.bind r74 fun j82 =>
    Option.bind (f_J4_append_cf468 F S73 n75 j82 (((97 + v2).toUInt32 % 65536).toInt32)) fun z83 => lt z83.1 fun r85 => lt z83.2.1 fun S84 => lt z83.2.2 fun n86 =>
    Option.bind r85 fun j93 =>
    Option.bind (f_J4_append_15ec4 F S84 n86 j93 ((12 : Nat))) fun z94 => lt z94.1 fun r96 => lt z94.2.1 fun S95 => lt z94.2.2 fun n97 =>
    Option.bind r96 fun j104 =>
    Option.bind (f_L_holder F S95 v0 v2) fun z105 => lt z105.1 fun r107 => lt z105.2 fun S106 =>
    Option.bind (f_J4_append_cf468 F S106 n97 j104 (((97 + r107).toUInt32 % 65536).toInt32)) fun z109 => lt z109.1 fun r111 => lt z109.2.1 fun S110 => lt z109.2.2 fun n112 =>
    Option.bind r111 fun j119 =>
    Option.bind (f_L_hasDays F S110 v0 v2) fun z120 => lt z120.1 fun r122 => lt z120.2 fun S121 =>
    if r122 = 0 then
    (f_L_text_L278 F (fun a0 a1 a2 a3 a4 => f_L_text_L223 F fu a0 a1 a2 a3 a4) S121 n112 v0 v1 v2)
    else
    (Option.bind (f_J4_append_15ec4 F S121 n112 v1 ((13 : Nat))) fun z125 => lt z125.1 fun r127 => lt z125.2.1 fun S126 => lt z125.2.2 fun n128 =>
    Option.bind r127 fun j135 =>
    f_L_text_L278 F (fun a0 a1 a2 a3 a4 => f_L_text_L223 F fu a0 a1 a2 a3 a4) S126 n128 v0 v1 v2))
def f_L_text_L157 (F : Nat) : Nat → St → Nat → XS → Nat → Int32 → Option (Nat × St × Nat)
  | 0, _, _, _, _, _ => none
  | fu + 1, S0, nL, v0, v1, v2 =>
    Option.bind (f_L_users F S0 v0) fun z215 => lt z215.1 fun r217 => lt z215.2 fun S216 =>
    if r217 ≤ v2 then
    (f_L_text_L223 F 6 S216 nL v0 v1 0)
    else
    (Option.bind (f_J4_append_15ec4 F S216 nL v1 ((8 : Nat))) fun z220 => lt z220.1 fun r222 => lt z220.2.1 fun S221 => lt z220.2.2 fun n223 =>
    Option.bind r222 fun j230 =>
    Option.bind (f_J4_append_cf468 F S221 n223 j230 (((97 + v2).toUInt32 % 65536).toInt32)) fun z231 => lt z231.1 fun r233 => lt z231.2.1 fun S232 => lt z231.2.2 fun n234 =>
    Option.bind r233 fun j241 =>
    Option.bind (f_J4_append_15ec4 F S232 n234 j241 ((9 : Nat))) fun z242 => lt z242.1 fun r244 => lt z242.2.1 fun S243 => lt z242.2.2 fun n245 =>
    Option.bind r244 fun j252 =>
    Option.bind (f_L_classOf F S243 v0 v2) fun z253 => lt z253.1 fun r255 => lt z253.2 fun S254 =>
    Option.bind (f_J4_append_cf468 F S254 n245 j252 (((97 + r255).toUInt32 % 65536).toInt32)) fun z257 => lt z257.1 fun r259 => lt z257.2.1 fun S258 => lt z257.2.2 fun n260 =>
    Option.bind r259 fun j267 =>
    Option.bind (f_J4_append_15ec4 F S258 n260 j267 ((10 : Nat))) fun z268 => lt z268.1 fun r270 => lt z268.2.1 fun S269 => lt z268.2.2 fun n271 =>
    Option.bind r270 fun j278 =>
    Option.bind (f_L_quota F S269 v0 v2) fun z279 => lt z279.1 fun r281 => lt z279.2 fun S280 =>
    Option.bind (f_J4_append_bf812 F S280 n271 j278 r281) fun z283 => lt z283.1 fun r285 => lt z283.2.1 fun S284 => lt z283.2.2 fun n286 =>
    Option.bind r285 fun j293 =>
    Option.bind (f_J4_append_15ec4 F S284 n286 j293 ((2 : Nat))) fun z294 => lt z294.1 fun r296 => lt z294.2.1 fun S295 => lt z294.2.2 fun n297 =>
    Option.bind r296 fun j304 =>
    lt (v2 + 1) fun x305 =>
    (fun a0 a1 a2 a3 a4 => f_L_text_L157 F fu a0 a1 a2 a3 a4) S295 n297 v0 v1 x305)
def f_L_text_L142 (F : Nat) (k36 : St → Nat → XS → Nat → Int32 → Option (Nat × St × Nat)) (S0 : St) (nL : Nat) (v0 : XS) (v1 : Nat) (v2 : Int32) : Option (Nat × St × Nat) :=
  Option.bind (f_J4_append_15ec4 F S0 nL v1 ((2 : Nat))) fun z397 => lt z397.1 fun r399 => lt z397.2.1 fun S398 => lt z397.2.2 fun n400 =>
  Option.bind r399 fun j407 =>
  lt (v2 + 1) fun x408 =>
  k36 S398 n400 v0 v1 x408
def f_L_text_L115 (F : Nat) (k36 : St → Nat → XS → Nat → Int32 → Option (Nat × St × Nat)) (S0 : St) (nL : Nat) (v0 : XS) (v1 : Nat) (v2 : Int32) : Option (Nat × St × Nat) :=
  Option.bind (f_L_then F S0 v0 v2) fun z421 => lt z421.1 fun r423 => lt z421.2 fun S422 =>
  if r423 < 0 then
  (f_L_text_L142 F k36 S422 nL v0 v1 v2)
  else
  (Option.bind (f_J4_append_15ec4 F S422 nL v1 ((7 : Nat))) fun z426 => lt z426.1 fun r428 => lt z426.2.1 fun S427 => lt z426.2.2 fun n429 =>
  Option.bind r428 fun j436 =>
  Option.bind (f_L_then F S427 v0 v2) fun z437 => lt z437.1 fun r439 => lt z437.2 fun S438 =>
  Option.bind (f_J4_append_cf468 F S438 n429 j436 (((97 + r439).toUInt32 % 65536).toInt32)) fun z441 => lt z441.1 fun r443 => lt z441.2.1 fun S442 => lt z441.2.2 fun n444 =>
  Option.bind r443 fun j451 =>
  f_L_text_L142 F k36 S442 n444 v0 v1 v2)
def f_L_text_L92 (F : Nat) (k36 : St → Nat → XS → Nat → Int32 → Option (Nat × St × Nat)) (S0 : St) (nL : Nat) (v0 : XS) (v1 : Nat) (v2 : Int32) : Option (Nat × St × Nat) :=
  Option.bind (f_L_keep F S0 v0 v2) fun z483 => lt z483.1 fun r485 => lt z483.2 fun S484 =>
  if r485 ≤ 0 then
  (f_L_text_L115 F k36 S484 nL v0 v1 v2)
  else
  (Option.bind (f_J4_append_15ec4 F S484 nL v1 ((6 : Nat))) fun z488 => lt z488.1 fun r490 => lt z488.2.1 fun S489 => lt z488.2.2 fun n491 =>
  Option.bind r490 fun j498 =>
  Option.bind (f_L_keep F S489 v0 v2) fun z499 => lt z499.1 fun r501 => lt z499.2 fun S500 =>
  Option.bind (f_J4_append_bf812 F S500 n491 j498 r501) fun z503 => lt z503.1 fun r505 => lt z503.2.1 fun S504 => lt z503.2.2 fun n506 =>
  Option.bind r505 fun j513 =>
  f_L_text_L115 F k36 S504 n506 v0 v1 v2)
def f_L_text_L36 (F : Nat) : Nat → St → Nat → XS → Nat → Int32 → Option (Nat × St × Nat)
  | 0, _, _, _, _, _ => none
  | fu + 1, S0, nL, v0, v1, v2 =>
    Option.bind (f_L_classes F S0 v0) fun z545 => lt z545.1 fun r547 => lt z545.2 fun S546 =>
    if r547 ≤ v2 then
    (f_L_text_L157 F 6 S546 nL v0 v1 0)
    else
    (Option.bind (f_J4_append_15ec4 F S546 nL v1 ((3 : Nat))) fun z550 => lt z550.1 fun r552 => lt z550.2.1 fun S551 => lt z550.2.2 fun n553 =>
    Option.bind r552 fun j560 =>
    Option.bind (f_J4_append_cf468 F S551 n553 j560 (((97 + v2).toUInt32 % 65536).toInt32)) fun z561 => lt z561.1 fun r563 => lt z561.2.1 fun S562 => lt z561.2.2 fun n564 =>
    Option.bind r563 fun j571 =>
    Option.bind (f_J4_append_15ec4 F S562 n564 j571 ((4 : Nat))) fun z572 => lt z572.1 fun r574 => lt z572.2.1 fun S573 => lt z572.2.2 fun n575 =>
    Option.bind r574 fun j582 =>
    Option.bind (f_L_days F S573 v0 v2) fun z583 => lt z583.1 fun r585 => lt z583.2 fun S584 =>
    if 0 ≤ r585 then
    (Option.bind (f_L_days F S584 v0 v2) fun z588 => lt z588.1 fun r590 => lt z588.2 fun S589 =>
    Option.bind (f_J4_append_bf812 F S589 n575 v1 r590) fun z592 => lt z592.1 fun r594 => lt z592.2.1 fun S593 => lt z592.2.2 fun n595 =>
    Option.bind r594 fun j602 =>
    f_L_text_L92 F (fun a0 a1 a2 a3 a4 => f_L_text_L36 F fu a0 a1 a2 a3 a4) S593 n595 v0 v1 v2)
    else
    (Option.bind (f_J4_append_15ec4 F S584 n575 v1 ((5 : Nat))) fun z603 => lt z603.1 fun r605 => lt z603.2.1 fun S604 => lt z603.2.2 fun n606 =>
    Option.bind r605 fun j613 =>
    f_L_text_L92 F (fun a0 a1 a2 a3 a4 => f_L_text_L36 F fu a0 a1 a2 a3 a4) S604 n606 v0 v1 v2))
def f_L_text (F : Nat) (S0 : St) (n : Nat) (p0 : XS) : Option (Nat × St × Nat) :=
  lt (nob S0 n) fun S686 => lt (n + 1) fun n687 =>
  Option.bind (f_J4_init_a7421 F S686 n687 n ((0 : Nat))) fun z690 => lt z690.1 fun S691 => lt z690.2 fun n693 =>
  Option.bind (f_L_grace F S691 p0) fun z700 => lt z700.1 fun r702 => lt z700.2 fun S701 =>
  Option.bind (f_J4_append_bf812 F S701 n693 n r702) fun z704 => lt z704.1 fun r706 => lt z704.2.1 fun S705 => lt z704.2.2 fun n707 =>
  Option.bind r706 fun j712 =>
  Option.bind (f_J4_append_15ec4 F S705 n707 j712 ((1 : Nat))) fun z713 => lt z713.1 fun r715 => lt z713.2.1 fun S714 => lt z713.2.2 fun n716 =>
  Option.bind r715 fun j721 =>
  Option.bind (f_L_interval F S714 p0) fun z722 => lt z722.1 fun r724 => lt z722.2 fun S723 =>
  Option.bind (f_J4_append_bf812 F S723 n716 j721 r724) fun z726 => lt z726.1 fun r728 => lt z726.2.1 fun S727 => lt z726.2.2 fun n729 =>
  Option.bind r728 fun j734 =>
  Option.bind (f_J4_append_15ec4 F S727 n729 j734 ((2 : Nat))) fun z735 => lt z735.1 fun r737 => lt z735.2.1 fun S736 => lt z735.2.2 fun n738 =>
  Option.bind r737 fun j743 =>
  f_L_text_L36 F 6 S736 n738 p0 j743 0
def f_L_load (F : Nat) (S0 : St) (n : Nat) (p0 : Nat) (p1 : XS) : Option (Int32 × St × Nat) :=
  Option.bind (f_L_text F S0 n p1) fun z1 => lt z1.1 fun r3 => lt z1.2.1 fun S2 => lt z1.2.2 fun n4 =>
  Option.bind (f_L_feed F S2 p0 r3) fun S12 =>
  Option.bind (f_X10_load F S12 n4 p0) fun z15 => lt z15.1 fun r17 => lt z15.2.1 fun S16 => lt z15.2.2 fun n18 =>
  Option.bind (f_L_users F S16 p1) fun z25 => lt z25.1 fun r27 => lt z25.2 fun S26 =>
  if ¬ r17 = r27 then
  (some (0, S26, n18))
  else
  (Option.bind (f_X10_errorCode F S26 p0) fun z30 => lt z30.1 fun r32 => lt z30.2 fun S31 =>
  if ¬ r32 = 0 then
  (some (0, S31, n18))
  else
  (Option.bind (f_X10_errorPosition F S31 p0) fun z35 => lt z35.1 fun r37 => lt z35.2 fun S36 =>
  if ¬ r37 = ((-1)) then
  (some (0, S36, n18))
  else
  (Option.bind (f_X10_count F S36 p0 ((0 : Int32))) fun z40 => lt z40.2 fun S41 =>
  sm z40.1 (fun _ => none) (fun r42 =>
  Option.bind (f_L_classes F S41 p1) fun z44 => lt z44.1 fun r46 => lt z44.2 fun S45 =>
  if ¬ r42 = r46 then
  (some (0, S45, n18))
  else
  (Option.bind (f_X10_count F S45 p0 ((3 : Int32))) fun z49 => lt z49.2 fun S50 =>
  sm z49.1 (fun _ => none) (fun r51 =>
  Option.bind (f_L_holds F S50 p1) fun z53 => lt z53.1 fun r55 => lt z53.2 fun S54 =>
  if ¬ r51 = r55 then
  (some (0, S54, n18))
  else
  (Option.bind (f_X10_day F S54 p0) fun z58 => lt z58.1 fun r60 => lt z58.2 fun S59 =>
  if ¬ r60 = 0 then
  (some (0, S59, n18))
  else
  (some (1, S59, n18)))))))))
def f_L_parts (F : Nat) (S0 : St) (p0 : XS) (p1 : Int32) : Option (Int32 × St) :=
  Option.bind (f_L_draw F S0 p0 (60 + (8 * p1)) ((3 : Int32))) fun z1 => lt z1.1 fun r3 => lt z1.2 fun S2 =>
  some (1 + r3, S2)
def f_L_sort (F : Nat) (S0 : St) (p0 : XS) (p1 : Int32) (p2 : Int32) : Option (Int32 × St) :=
  Option.bind (f_L_draw F S0 p0 ((61 + (8 * p1)) + p2) ((6 : Int32))) fun z1 => lt z1.1 fun r3 => lt z1.2 fun S2 =>
  some (r3, S2)
def f_L_part (F : Nat) (S0 : St) (p0 : Int32) : Option (Nat × St) :=
  if p0 = 0 then
  (some (((15 : Nat)), S0))
  else
  (if p0 = 1 then
  (some (((16 : Nat)), S0))
  else
  (if p0 = 2 then
  (some (((17 : Nat)), S0))
  else
  (if p0 = 3 then
  (some (((18 : Nat)), S0))
  else
  (if p0 = 4 then
  (some (((19 : Nat)), S0))
  else
  (some (((20 : Nat)), S0))))))
def f_L_hasAb_L2 (F : Nat) : Nat → St → XS → Int32 → Int32 → Option (Int32 × St)
  | 0, _, _, _, _ => none
  | fu + 1, S0, v0, v1, v2 =>
    Option.bind (f_L_parts F S0 v0 v1) fun z1 => lt z1.1 fun r3 => lt z1.2 fun S2 =>
    if r3 ≤ v2 then
    (some (0, S2))
    else
    (Option.bind (f_L_sort F S2 v0 v1 v2) fun z6 => lt z6.1 fun r8 => lt z6.2 fun S7 =>
    if r8 = 0 then
    (some (1, S7))
    else
    (Option.bind (f_L_sort F S7 v0 v1 v2) fun z11 => lt z11.1 fun r13 => lt z11.2 fun S12 =>
    if r13 = 1 then
    (some (1, S12))
    else
    (Option.bind (f_L_sort F S12 v0 v1 v2) fun z16 => lt z16.1 fun r18 => lt z16.2 fun S17 =>
    if ¬ r18 = 3 then
    (lt (v2 + 1) fun x21 =>
    (fun a0 a1 a2 a3 => f_L_hasAb_L2 F fu a0 a1 a2 a3) S17 v0 v1 x21)
    else
    (some (1, S17)))))
def f_L_hasAb (F : Nat) (S0 : St) (p0 : XS) (p1 : Int32) : Option (Int32 × St) :=
  f_L_hasAb_L2 F F S0 p0 p1 0
def f_L_size_L4 (F : Nat) : Nat → St → XS → Int32 → Int32 → Int32 → Option (Int32 × St)
  | 0, _, _, _, _, _ => none
  | fu + 1, S0, v0, v1, v2, v3 =>
    Option.bind (f_L_parts F S0 v0 v1) fun z1 => lt z1.1 fun r3 => lt z1.2 fun S2 =>
    if r3 ≤ v3 then
    (some (v2, S2))
    else
    (Option.bind (f_L_sort F S2 v0 v1 v3) fun z6 => lt z6.1 fun r8 => lt z6.2 fun S7 =>
    Option.bind (f_L_part F S7 r8) fun z10 => lt z10.1 fun r12 => lt z10.2 fun S11 =>
    Option.bind (f_J0_length_8abf5 F S11 r12) fun z14 => lt z14.1 fun r16 => lt z14.2 fun S15 =>
    lt (v2 + r16) fun x18 =>
    lt (v3 + 1) fun x19 =>
    (fun a0 a1 a2 a3 a4 => f_L_size_L4 F fu a0 a1 a2 a3 a4) S15 v0 v1 x18 x19)
def f_L_size (F : Nat) (S0 : St) (p0 : XS) (p1 : Int32) : Option (Int32 × St) :=
  f_L_size_L4 F F S0 p0 p1 0 0
def f_L_recipients (F : Nat) (S0 : St) (p0 : XS) (p1 : Int32) : Option (Int32 × St) :=
  Option.bind (f_L_users F S0 p0) fun z1 => lt z1.1 fun r3 => lt z1.2 fun S2 =>
  Option.bind (f_L_draw F S2 p0 (65 + (8 * p1)) ((1 <<< (r3 &&& 31)) - 1)) fun z5 => lt z5.1 fun r7 => lt z5.2 fun S6 =>
  some (1 + r7, S6)
def f_L_special (F : Nat) (S0 : St) (p0 : XS) (p1 : Int32) : Option (Int32 × St) :=
  Option.bind (f_L_draw F S0 p0 (66 + (8 * p1)) ((3 : Int32))) fun z1 => lt z1.1 fun r3 => lt z1.2 fun S2 =>
  if ¬ r3 = 0 then
  (some ((-1), S2))
  else
  (Option.bind (f_L_classes F S2 p0) fun z6 => lt z6.1 fun r8 => lt z6.2 fun S7 =>
  Option.bind (f_L_draw F S7 p0 (67 + (8 * p1)) r8) fun z10 => lt z10.1 fun r12 => lt z10.2 fun S11 =>
  some (r12, S11))
def f_L_deliver_L20 (F : Nat) : Nat → St → Nat → Nat → XS → Int32 → Nat → Int32 → Option (Int32 × St × Nat)
  | 0, _, _, _, _, _, _, _ => none
  | fu + 1, S0, nL, v0, v1, v2, v3, v4 =>
    Option.bind (f_L_parts F S0 v1 v2) fun z1 => lt z1.1 fun r3 => lt z1.2 fun S2 =>
    if r3 ≤ v4 then
    (Option.bind (f_J4_toString_0e30d F S2 nL v3) fun z6 => lt z6.1 fun r8 => lt z6.2.1 fun S7 => lt z6.2.2 fun n9 =>
    Option.bind (f_L_feed F S7 v0 r8) fun S19 =>
    Option.bind (f_L_recipients F S19 v1 v2) fun z22 => lt z22.1 fun r24 => lt z22.2 fun S23 =>
    Option.bind (f_L_special F S23 v1 v2) fun z26 => lt z26.1 fun r28 => lt z26.2 fun S27 =>
    Option.bind (f_X10_deliver F S27 n9 v0 ((0 : Int32)) r24 r28) fun z30 => lt z30.2.1 fun S31 => lt z30.2.2 fun n33 =>
    sm z30.1 (fun _ => none) (fun r32 =>
    some (r32, S31, n33)))
    else
    (Option.bind (f_J4_append_cf468 F S2 nL v3 ((124 : Int32))) fun z42 => lt z42.1 fun r44 => lt z42.2.1 fun S43 => lt z42.2.2 fun n45 =>
    Option.bind r44 fun j54 =>
    Option.bind (f_L_sort F S43 v1 v2 v4) fun z55 => lt z55.1 fun r57 => lt z55.2 fun S56 =>
    Option.bind (f_L_part F S56 r57) fun z59 => lt z59.1 fun r61 => lt z59.2 fun S60 =>
    Option.bind (f_J4_append_15ec4 F S60 n45 j54 r61) fun z63 => lt z63.1 fun r65 => lt z63.2.1 fun S64 => lt z63.2.2 fun n66 =>
    Option.bind r65 fun j75 =>
    lt (v4 + 1) fun x76 =>
    (fun a0 a1 a2 a3 a4 a5 a6 => f_L_deliver_L20 F fu a0 a1 a2 a3 a4 a5 a6) S64 n66 v0 v1 v2 v3 x76)
def f_L_deliver (F : Nat) (S0 : St) (n : Nat) (p0 : Nat) (p1 : XS) (p2 : Int32) : Option (Int32 × St × Nat) :=
  lt (nob S0 n) fun S156 => lt (n + 1) fun n157 =>
  Option.bind (f_L_sort F S156 p1 p2 ((0 : Int32))) fun z162 => lt z162.1 fun r164 => lt z162.2 fun S163 =>
  Option.bind (f_L_part F S163 r164) fun z166 => lt z166.1 fun r168 => lt z166.2 fun S167 =>
  Option.bind (f_J4_init_a7421 F S167 n157 n r168) fun z170 => lt z170.1 fun S171 => lt z170.2 fun n173 =>
  f_L_deliver_L20 F 5 S171 n173 p0 p1 p2 n 1
def f_L_wrong (F : Nat) (S0 : St) (n : Nat) (p0 : Nat) (p1 : Nat) (p2 : Int32) (p3 : Int32) : Option (Int32 × St × Nat) :=
  Option.bind (f_L_feed F S0 p0 p1) fun S2 =>
  Option.bind (f_X10_load F S2 n p0) fun z5 => lt z5.1 fun r7 => lt z5.2.1 fun S6 => lt z5.2.2 fun n8 =>
  if ¬ r7 = ((-4)) then
  (some (0, S6, n8))
  else
  (Option.bind (f_X10_errorCode F S6 p0) fun z18 => lt z18.1 fun r20 => lt z18.2 fun S19 =>
  if ¬ r20 = p2 then
  (some (0, S19, n8))
  else
  (Option.bind (f_X10_errorPosition F S19 p0) fun z23 => lt z23.1 fun r25 => lt z23.2 fun S24 =>
  if ¬ r25 = p3 then
  (some (0, S24, n8))
  else
  (some (1, S24, n8))))
def f_J5_init_d00df (F : Nat) (S0 : St) (n : Nat) (p0 : Nat) (p1 : Int32) : Option (St × Nat) :=
  if (1 : Int32) = 0 then
  (none)
  else
  (ck (¬ p1 < 0 ∧ Int32.toNatClampNeg p1 ≤ 32) <|
  lt (nar S0 n (Int32.toNatClampNeg p1)) fun S5 => lt (n + 1) fun n6 =>
  lt (ur S5 1000 p0 (some n)) fun S12 =>
  lt (ui S12 1001 p0 0) fun S13 =>
  some (S13, n6))
def f_J4_init_da8c8 (F : Nat) (S0 : St) (n : Nat) (p0 : Nat) : Option (St × Nat) :=
  Option.bind (f_J5_init_d00df F S0 n p0 ((16 : Int32))) fun z1 => lt z1.1 fun S2 => lt z1.2 fun n4 =>
  some (S2, n4)
set_option maxRecDepth 100000 in
def f_L_errors_L470 (F : Nat) : Nat → St → Nat → Nat → Nat → Int32 → Option (Int32 × St × Nat)
  | 0, _, _, _, _, _ => none
  | fu + 1, S0, nL, v0, v4, v5 =>
    if 9 ≤ v5 then
    (Option.bind (f_J4_toString_0e30d F S0 nL v4) fun z2 => lt z2.1 fun r4 => lt z2.2.1 fun S3 => lt z2.2.2 fun n5 =>
    Option.bind (f_L_wrong F S3 n5 v0 r4 ((4 : Int32)) ((150 : Int32))) fun z14 => lt z14.1 fun r16 => lt z14.2.1 fun S15 => lt z14.2.2 fun n17 =>
    if r16 = 0 then
    (some (0, S15, n17))
    else
    (Option.bind (f_X10_count F S15 v0 ((0 : Int32))) fun z27 => lt z27.2 fun S28 =>
    sm z27.1 (fun _ => none) (fun r29 =>
    if ¬ r29 = 0 then
    (some (0, S28, n17))
    else
    (Option.bind (f_X10_undoCount F S28 v0) fun z32 => lt z32.1 fun r34 => lt z32.2 fun S33 =>
    if ¬ r34 = 0 then
    (some (0, S33, n17))
    else
    (some (1, S33, n17))))))
    else
    (Option.bind (f_J4_append_15ec4 F S0 nL v4 ((39 : Nat))) fun z37 => lt z37.1 fun r39 => lt z37.2.1 fun S38 => lt z37.2.2 fun n40 =>
    Option.bind r39 fun j49 =>
    Option.bind (f_J4_append_cf468 F S38 n40 j49 (((97 + v5).toUInt32 % 65536).toInt32)) fun z50 => lt z50.1 fun r52 => lt z50.2.1 fun S51 => lt z50.2.2 fun n53 =>
    Option.bind r52 fun j62 =>
    Option.bind (f_J4_append_15ec4 F S51 n53 j62 ((40 : Nat))) fun z63 => lt z63.1 fun r65 => lt z63.2.1 fun S64 => lt z63.2.2 fun n66 =>
    Option.bind r65 fun j75 =>
    lt (v5 + 1) fun x76 =>
    (fun a0 a1 a2 a3 a4 => f_L_errors_L470 F fu a0 a1 a2 a3 a4) S64 n66 v0 v4 x76)
set_option maxRecDepth 100000 in
def f_L_errors (F : Nat) (S0 : St) (n : Nat) : Option (Int32 × St × Nat) :=
  lt (nob S0 n) fun S156 => lt (n + 1) fun n157 =>
  Option.bind (f_X10_init F S156 n157 n) fun z160 => lt z160.1 fun S161 => lt z160.2 fun n163 =>
  lt (nob S161 n163) fun S173 => lt (n163 + 1) fun n174 =>
  Option.bind (f_J4_init_da8c8 F S173 n174 n163) fun z179 => lt z179.1 fun S180 => lt z179.2 fun n182 =>
  Option.bind (f_J4_append_15ec4 F S180 n182 n163 ((21 : Nat))) fun z191 => lt z191.1 fun r193 => lt z191.2.1 fun S192 => lt z191.2.2 fun n194 =>
  Option.bind r193 fun j201 =>
  Option.bind (f_J4_append_15ec4 F S192 n194 j201 ((22 : Nat))) fun z202 => lt z202.1 fun r204 => lt z202.2.1 fun S203 => lt z202.2.2 fun n205 =>
  Option.bind r204 fun j212 =>
  Option.bind (f_J4_toString_0e30d F S203 n205 j212) fun z213 => lt z213.1 fun r215 => lt z213.2.1 fun S214 => lt z213.2.2 fun n216 =>
  lt (nob S214 n216) fun S226 => lt (n216 + 1) fun n227 =>
  Option.bind (f_J4_init_da8c8 F S226 n227 n216) fun z234 => lt z234.1 fun S235 => lt z234.2 fun n237 =>
  Option.bind (f_J4_append_15ec4 F S235 n237 n216 r215) fun z248 => lt z248.1 fun r250 => lt z248.2.1 fun S249 => lt z248.2.2 fun n251 =>
  Option.bind r250 fun j260 =>
  Option.bind (f_J4_append_15ec4 F S249 n251 j260 ((23 : Nat))) fun z261 => lt z261.1 fun r263 => lt z261.2.1 fun S262 => lt z261.2.2 fun n264 =>
  Option.bind r263 fun j273 =>
  Option.bind (f_J4_toString_0e30d F S262 n264 j273) fun z274 => lt z274.1 fun r276 => lt z274.2.1 fun S275 => lt z274.2.2 fun n277 =>
  Option.bind (f_L_wrong F S275 n277 n ((24 : Nat)) ((1 : Int32)) ((0 : Int32))) fun z286 => lt z286.1 fun r288 => lt z286.2.1 fun S287 => lt z286.2.2 fun n289 =>
  if r288 = 0 then
  (some (0, S287, n289))
  else
  (Option.bind (f_L_wrong F S287 n289 n ((25 : Nat)) ((2 : Int32)) ((12 : Int32))) fun z301 => lt z301.1 fun r303 => lt z301.2.1 fun S302 => lt z301.2.2 fun n304 =>
  if r303 = 0 then
  (some (0, S302, n304))
  else
  (lt (nob S302 n304) fun S319 => lt (n304 + 1) fun n320 =>
  Option.bind (f_J4_init_da8c8 F S319 n320 n304) fun z329 => lt z329.1 fun S330 => lt z329.2 fun n332 =>
  Option.bind (f_J4_append_15ec4 F S330 n332 n304 ((21 : Nat))) fun z345 => lt z345.1 fun r347 => lt z345.2.1 fun S346 => lt z345.2.2 fun n348 =>
  Option.bind r347 fun j359 =>
  Option.bind (f_J4_append_15ec4 F S346 n348 j359 ((26 : Nat))) fun z360 => lt z360.1 fun r362 => lt z360.2.1 fun S361 => lt z360.2.2 fun n363 =>
  Option.bind r362 fun j374 =>
  Option.bind (f_J4_toString_0e30d F S361 n363 j374) fun z375 => lt z375.1 fun r377 => lt z375.2.1 fun S376 => lt z375.2.2 fun n378 =>
  Option.bind (f_L_wrong F S376 n378 n r377 ((4 : Int32)) ((22 : Int32))) fun z389 => lt z389.1 fun r391 => lt z389.2.1 fun S390 => lt z389.2.2 fun n392 =>
  if r391 = 0 then
  (some (0, S390, n392))
  else
  (lt (nob S390 n392) fun S407 => lt (n392 + 1) fun n408 =>
  Option.bind (f_J4_init_da8c8 F S407 n408 n392) fun z417 => lt z417.1 fun S418 => lt z417.2 fun n420 =>
  Option.bind (f_J4_append_15ec4 F S418 n420 n392 ((21 : Nat))) fun z433 => lt z433.1 fun r435 => lt z433.2.1 fun S434 => lt z433.2.2 fun n436 =>
  Option.bind r435 fun j447 =>
  Option.bind (f_J4_append_15ec4 F S434 n436 j447 ((27 : Nat))) fun z448 => lt z448.1 fun r450 => lt z448.2.1 fun S449 => lt z448.2.2 fun n451 =>
  Option.bind r450 fun j462 =>
  Option.bind (f_J4_toString_0e30d F S449 n451 j462) fun z463 => lt z463.1 fun r465 => lt z463.2.1 fun S464 => lt z463.2.2 fun n466 =>
  Option.bind (f_L_wrong F S464 n466 n r465 ((1 : Int32)) ((28 : Int32))) fun z477 => lt z477.1 fun r479 => lt z477.2.1 fun S478 => lt z477.2.2 fun n480 =>
  if r479 = 0 then
  (some (0, S478, n480))
  else
  (lt (nob S478 n480) fun S495 => lt (n480 + 1) fun n496 =>
  Option.bind (f_J4_init_da8c8 F S495 n496 n480) fun z505 => lt z505.1 fun S506 => lt z505.2 fun n508 =>
  Option.bind (f_J4_append_15ec4 F S506 n508 n480 ((21 : Nat))) fun z521 => lt z521.1 fun r523 => lt z521.2.1 fun S522 => lt z521.2.2 fun n524 =>
  Option.bind r523 fun j535 =>
  Option.bind (f_J4_append_15ec4 F S522 n524 j535 ((28 : Nat))) fun z536 => lt z536.1 fun r538 => lt z536.2.1 fun S537 => lt z536.2.2 fun n539 =>
  Option.bind r538 fun j550 =>
  Option.bind (f_J4_toString_0e30d F S537 n539 j550) fun z551 => lt z551.1 fun r553 => lt z551.2.1 fun S552 => lt z551.2.2 fun n554 =>
  Option.bind (f_L_wrong F S552 n554 n r553 ((2 : Int32)) ((35 : Int32))) fun z565 => lt z565.1 fun r567 => lt z565.2.1 fun S566 => lt z565.2.2 fun n568 =>
  if r567 = 0 then
  (some (0, S566, n568))
  else
  (lt (nob S566 n568) fun S583 => lt (n568 + 1) fun n584 =>
  Option.bind (f_J4_init_da8c8 F S583 n584 n568) fun z593 => lt z593.1 fun S594 => lt z593.2 fun n596 =>
  Option.bind (f_J4_append_15ec4 F S594 n596 n568 r215) fun z609 => lt z609.1 fun r611 => lt z609.2.1 fun S610 => lt z609.2.2 fun n612 =>
  Option.bind r611 fun j623 =>
  Option.bind (f_J4_append_15ec4 F S610 n612 j623 ((29 : Nat))) fun z624 => lt z624.1 fun r626 => lt z624.2.1 fun S625 => lt z624.2.2 fun n627 =>
  Option.bind r626 fun j638 =>
  Option.bind (f_J4_toString_0e30d F S625 n627 j638) fun z639 => lt z639.1 fun r641 => lt z639.2.1 fun S640 => lt z639.2.2 fun n642 =>
  Option.bind (f_L_wrong F S640 n642 n r641 ((3 : Int32)) ((43 : Int32))) fun z653 => lt z653.1 fun r655 => lt z653.2.1 fun S654 => lt z653.2.2 fun n656 =>
  if ¬ r655 = 0 then
  (lt (nob S654 n656) fun S671 => lt (n656 + 1) fun n672 =>
  Option.bind (f_J4_init_da8c8 F S671 n672 n656) fun z681 => lt z681.1 fun S682 => lt z681.2 fun n684 =>
  Option.bind (f_J4_append_15ec4 F S682 n684 n656 r215) fun z697 => lt z697.1 fun r699 => lt z697.2.1 fun S698 => lt z697.2.2 fun n700 =>
  Option.bind r699 fun j711 =>
  Option.bind (f_J4_append_15ec4 F S698 n700 j711 ((30 : Nat))) fun z712 => lt z712.1 fun r714 => lt z712.2.1 fun S713 => lt z712.2.2 fun n715 =>
  Option.bind r714 fun j726 =>
  Option.bind (f_J4_toString_0e30d F S713 n715 j726) fun z727 => lt z727.1 fun r729 => lt z727.2.1 fun S728 => lt z727.2.2 fun n730 =>
  Option.bind (f_L_wrong F S728 n730 n r729 ((3 : Int32)) ((57 : Int32))) fun z741 => lt z741.1 fun r743 => lt z741.2.1 fun S742 => lt z741.2.2 fun n744 =>
  if r743 = 0 then
  (some (0, S742, n744))
  else
  (lt (nob S742 n744) fun S759 => lt (n744 + 1) fun n760 =>
  Option.bind (f_J4_init_da8c8 F S759 n760 n744) fun z769 => lt z769.1 fun S770 => lt z769.2 fun n772 =>
  Option.bind (f_J4_append_15ec4 F S770 n772 n744 r215) fun z785 => lt z785.1 fun r787 => lt z785.2.1 fun S786 => lt z785.2.2 fun n788 =>
  Option.bind r787 fun j799 =>
  Option.bind (f_J4_append_15ec4 F S786 n788 j799 ((31 : Nat))) fun z800 => lt z800.1 fun r802 => lt z800.2.1 fun S801 => lt z800.2.2 fun n803 =>
  Option.bind r802 fun j814 =>
  Option.bind (f_J4_toString_0e30d F S801 n803 j814) fun z815 => lt z815.1 fun r817 => lt z815.2.1 fun S816 => lt z815.2.2 fun n818 =>
  Option.bind (f_L_wrong F S816 n818 n r817 ((2 : Int32)) ((57 : Int32))) fun z829 => lt z829.1 fun r831 => lt z829.2.1 fun S830 => lt z829.2.2 fun n832 =>
  if r831 = 0 then
  (some (0, S830, n832))
  else
  (lt (nob S830 n832) fun S847 => lt (n832 + 1) fun n848 =>
  Option.bind (f_J4_init_da8c8 F S847 n848 n832) fun z857 => lt z857.1 fun S858 => lt z857.2 fun n860 =>
  Option.bind (f_J4_append_15ec4 F S858 n860 n832 r215) fun z873 => lt z873.1 fun r875 => lt z873.2.1 fun S874 => lt z873.2.2 fun n876 =>
  Option.bind r875 fun j887 =>
  Option.bind (f_J4_append_15ec4 F S874 n876 j887 ((32 : Nat))) fun z888 => lt z888.1 fun r890 => lt z888.2.1 fun S889 => lt z888.2.2 fun n891 =>
  Option.bind r890 fun j902 =>
  Option.bind (f_J4_toString_0e30d F S889 n891 j902) fun z903 => lt z903.1 fun r905 => lt z903.2.1 fun S904 => lt z903.2.2 fun n906 =>
  Option.bind (f_L_wrong F S904 n906 n r905 ((4 : Int32)) ((37 : Int32))) fun z917 => lt z917.1 fun r919 => lt z917.2.1 fun S918 => lt z917.2.2 fun n920 =>
  if r919 = 0 then
  (some (0, S918, n920))
  else
  (lt (nob S918 n920) fun S935 => lt (n920 + 1) fun n936 =>
  Option.bind (f_J4_init_da8c8 F S935 n936 n920) fun z945 => lt z945.1 fun S946 => lt z945.2 fun n948 =>
  Option.bind (f_J4_append_15ec4 F S946 n948 n920 r215) fun z961 => lt z961.1 fun r963 => lt z961.2.1 fun S962 => lt z961.2.2 fun n964 =>
  Option.bind r963 fun j975 =>
  Option.bind (f_J4_append_15ec4 F S962 n964 j975 ((33 : Nat))) fun z976 => lt z976.1 fun r978 => lt z976.2.1 fun S977 => lt z976.2.2 fun n979 =>
  Option.bind r978 fun j990 =>
  Option.bind (f_J4_toString_0e30d F S977 n979 j990) fun z991 => lt z991.1 fun r993 => lt z991.2.1 fun S992 => lt z991.2.2 fun n994 =>
  Option.bind (f_L_wrong F S992 n994 n r993 ((3 : Int32)) ((50 : Int32))) fun z1005 => lt z1005.1 fun r1007 => lt z1005.2.1 fun S1006 => lt z1005.2.2 fun n1008 =>
  if r1007 = 0 then
  (some (0, S1006, n1008))
  else
  (lt (nob S1006 n1008) fun S1023 => lt (n1008 + 1) fun n1024 =>
  Option.bind (f_J4_init_da8c8 F S1023 n1024 n1008) fun z1033 => lt z1033.1 fun S1034 => lt z1033.2 fun n1036 =>
  Option.bind (f_J4_append_15ec4 F S1034 n1036 n1008 r276) fun z1049 => lt z1049.1 fun r1051 => lt z1049.2.1 fun S1050 => lt z1049.2.2 fun n1052 =>
  Option.bind r1051 fun j1063 =>
  Option.bind (f_J4_append_15ec4 F S1050 n1052 j1063 ((34 : Nat))) fun z1064 => lt z1064.1 fun r1066 => lt z1064.2.1 fun S1065 => lt z1064.2.2 fun n1067 =>
  Option.bind r1066 fun j1078 =>
  Option.bind (f_J4_toString_0e30d F S1065 n1067 j1078) fun z1079 => lt z1079.1 fun r1081 => lt z1079.2.1 fun S1080 => lt z1079.2.2 fun n1082 =>
  Option.bind (f_L_wrong F S1080 n1082 n r1081 ((3 : Int32)) ((66 : Int32))) fun z1093 => lt z1093.1 fun r1095 => lt z1093.2.1 fun S1094 => lt z1093.2.2 fun n1096 =>
  if r1095 = 0 then
  (some (0, S1094, n1096))
  else
  (lt (nob S1094 n1096) fun S1111 => lt (n1096 + 1) fun n1112 =>
  Option.bind (f_J4_init_da8c8 F S1111 n1112 n1096) fun z1121 => lt z1121.1 fun S1122 => lt z1121.2 fun n1124 =>
  Option.bind (f_J4_append_15ec4 F S1122 n1124 n1096 r276) fun z1137 => lt z1137.1 fun r1139 => lt z1137.2.1 fun S1138 => lt z1137.2.2 fun n1140 =>
  Option.bind r1139 fun j1151 =>
  Option.bind (f_J4_append_15ec4 F S1138 n1140 j1151 ((35 : Nat))) fun z1152 => lt z1152.1 fun r1154 => lt z1152.2.1 fun S1153 => lt z1152.2.2 fun n1155 =>
  Option.bind r1154 fun j1166 =>
  Option.bind (f_J4_toString_0e30d F S1153 n1155 j1166) fun z1167 => lt z1167.1 fun r1169 => lt z1167.2.1 fun S1168 => lt z1167.2.2 fun n1170 =>
  Option.bind (f_L_wrong F S1168 n1170 n r1169 ((3 : Int32)) ((68 : Int32))) fun z1181 => lt z1181.1 fun r1183 => lt z1181.2.1 fun S1182 => lt z1181.2.2 fun n1184 =>
  if ¬ r1183 = 0 then
  (lt (nob S1182 n1184) fun S1199 => lt (n1184 + 1) fun n1200 =>
  Option.bind (f_J4_init_da8c8 F S1199 n1200 n1184) fun z1209 => lt z1209.1 fun S1210 => lt z1209.2 fun n1212 =>
  Option.bind (f_J4_append_15ec4 F S1210 n1212 n1184 r276) fun z1225 => lt z1225.1 fun r1227 => lt z1225.2.1 fun S1226 => lt z1225.2.2 fun n1228 =>
  Option.bind r1227 fun j1239 =>
  Option.bind (f_J4_append_15ec4 F S1226 n1228 j1239 ((36 : Nat))) fun z1240 => lt z1240.1 fun r1242 => lt z1240.2.1 fun S1241 => lt z1240.2.2 fun n1243 =>
  Option.bind r1242 fun j1254 =>
  Option.bind (f_J4_toString_0e30d F S1241 n1243 j1254) fun z1255 => lt z1255.1 fun r1257 => lt z1255.2.1 fun S1256 => lt z1255.2.2 fun n1258 =>
  Option.bind (f_L_wrong F S1256 n1258 n r1257 ((3 : Int32)) ((72 : Int32))) fun z1269 => lt z1269.1 fun r1271 => lt z1269.2.1 fun S1270 => lt z1269.2.2 fun n1272 =>
  if r1271 = 0 then
  (some (0, S1270, n1272))
  else
  (lt (nob S1270 n1272) fun S1287 => lt (n1272 + 1) fun n1288 =>
  Option.bind (f_J4_init_da8c8 F S1287 n1288 n1272) fun z1297 => lt z1297.1 fun S1298 => lt z1297.2 fun n1300 =>
  Option.bind (f_J4_append_15ec4 F S1298 n1300 n1272 r276) fun z1313 => lt z1313.1 fun r1315 => lt z1313.2.1 fun S1314 => lt z1313.2.2 fun n1316 =>
  Option.bind r1315 fun j1327 =>
  Option.bind (f_J4_append_15ec4 F S1314 n1316 j1327 ((37 : Nat))) fun z1328 => lt z1328.1 fun r1330 => lt z1328.2.1 fun S1329 => lt z1328.2.2 fun n1331 =>
  Option.bind r1330 fun j1342 =>
  Option.bind (f_J4_toString_0e30d F S1329 n1331 j1342) fun z1343 => lt z1343.1 fun r1345 => lt z1343.2.1 fun S1344 => lt z1343.2.2 fun n1346 =>
  Option.bind (f_L_wrong F S1344 n1346 n r1345 ((2 : Int32)) ((84 : Int32))) fun z1357 => lt z1357.1 fun r1359 => lt z1357.2.1 fun S1358 => lt z1357.2.2 fun n1360 =>
  if r1359 = 0 then
  (some (0, S1358, n1360))
  else
  (lt (nob S1358 n1360) fun S1375 => lt (n1360 + 1) fun n1376 =>
  Option.bind (f_J4_init_da8c8 F S1375 n1376 n1360) fun z1385 => lt z1385.1 fun S1386 => lt z1385.2 fun n1388 =>
  Option.bind (f_J4_append_15ec4 F S1386 n1388 n1360 r276) fun z1401 => lt z1401.1 fun r1403 => lt z1401.2.1 fun S1402 => lt z1401.2.2 fun n1404 =>
  Option.bind r1403 fun j1415 =>
  Option.bind (f_J4_append_15ec4 F S1402 n1404 j1415 ((38 : Nat))) fun z1416 => lt z1416.1 fun r1418 => lt z1416.2.1 fun S1417 => lt z1416.2.2 fun n1419 =>
  Option.bind r1418 fun j1430 =>
  Option.bind (f_J4_toString_0e30d F S1417 n1419 j1430) fun z1431 => lt z1431.1 fun r1433 => lt z1431.2.1 fun S1432 => lt z1431.2.2 fun n1434 =>
  Option.bind (f_L_wrong F S1432 n1434 n r1433 ((1 : Int32)) ((79 : Int32))) fun z1445 => lt z1445.1 fun r1447 => lt z1445.2.1 fun S1446 => lt z1445.2.2 fun n1448 =>
  if ¬ r1447 = 0 then
  (lt (nob S1446 n1448) fun S1463 => lt (n1448 + 1) fun n1464 =>
  Option.bind (f_J4_init_a7421 F S1463 n1464 n1448 ((21 : Nat))) fun z1473 => lt z1473.1 fun S1474 => lt z1473.2 fun n1476 =>
  f_L_errors_L470 F 12 S1474 n1476 n n1448 0)
  else
  (some (0, S1446, n1448)))))
  else
  (some (0, S1182, n1184))))))))
  else
  (some (0, S654, n656)))))))
