theorem so6 {α β γ δ ε ζ : Type} {a b : α} {c d : β} {e f : γ} {g h : δ} {i j : ε} {k l : ζ} (q : some (a, c, e, g, i, k) = some (b, d, f, h, j, l)) : a = b ∧ c = d ∧ e = f ∧ g = h ∧ i = j ∧ k = l := by
  have q1 := Option.some.inj q
  simp only [Prod.mk.injEq] at q1
  exact q1
def f_lawS (F : Nat) (xs : Nat → Int32) (L : Nat) (S0 : St) (n : Nat) : Option (St × Nat × Nat × Nat × Nat × Nat) :=
  lt (nob S0 n) fun S4 => lt (n + 1) fun n5 =>
  Option.bind (f_X10_init F S4 n5 n) fun z7 => lt z7.1 fun S8 => lt z7.2 fun n10 =>
  lt (nob S8 n10) fun S17 => lt (n10 + 1) fun n18 =>
  Option.bind (f_X11_init F S17 n18 n10) fun z20 => lt z20.1 fun S21 => lt z20.2 fun n23 =>
  lt (nar S21 n23 1) fun S30 => lt (n23 + 1) fun n31 =>
  lt (nar S30 n31 1) fun S36 => lt (n31 + 1) fun n37 =>
  some (S36, n37, n, n10, n23, n31)
def f_law0 (F : Nat) (xs : Nat → Int32) (L : Nat) (S0 : St) (n o1 o2 o3 o4 : Nat) (i : Int32) : Option (St × Nat) :=
  cki (i + 1) L <|
  cki (i + 2) L <|
  cki (i + 3) L <|
  cki (i + 4) L <|
  cki (i + 5) L <|
  Option.bind (f_L_append F S0 o1 (xs (Int32.toNatClampNeg (i + 1))) (xs (Int32.toNatClampNeg (i + 2))) (xs (Int32.toNatClampNeg (i + 3))) (xs (Int32.toNatClampNeg (i + 4))) (xs (Int32.toNatClampNeg (i + 5))) o3) fun z6 => lt z6.1 fun r8 => lt z6.2 fun S7 =>
  cki (i + 1) L <|
  cki (i + 2) L <|
  cki (i + 3) L <|
  cki (i + 4) L <|
  cki (i + 5) L <|
  Option.bind (f_X11_append F S7 o2 (xs (Int32.toNatClampNeg (i + 1))) (xs (Int32.toNatClampNeg (i + 2))) (xs (Int32.toNatClampNeg (i + 3))) (xs (Int32.toNatClampNeg (i + 4))) (xs (Int32.toNatClampNeg (i + 5)))) fun z15 => lt z15.1 fun r17 => lt z15.2 fun S16 =>
  Option.bind (f_X11_thrown F S16 o2) fun z19 => lt z19.1 fun r21 => lt z19.2 fun S20 =>
  if r21 = r8 then
  (if ¬ r8 = 0 then
  (some (S20, n))
  else
  (cki 0 (ln S20 o3) <|
  if (lg_cmp (al S20 o3 (Int32.toNatClampNeg 0)) r17.toInt64) = 0 then
  (some (S20, n))
  else
  (none)))
  else
  (none)
def f_law1 (F : Nat) (xs : Nat → Int32) (L : Nat) (S0 : St) (n o1 o2 o3 o4 : Nat) (i : Int32) : Option (St × Nat) :=
  cki (i + 1) L <|
  Option.bind (f_L_truncate F S0 o1 (xs (Int32.toNatClampNeg (i + 1)))) fun z2 => lt z2.1 fun r4 => lt z2.2 fun S3 =>
  cki (i + 1) L <|
  Option.bind (f_X11_truncate F S3 o2 (xs (Int32.toNatClampNeg (i + 1)))) fun S8 =>
  Option.bind (f_X11_thrown F S8 o2) fun z11 => lt z11.1 fun r13 => lt z11.2 fun S12 =>
  if r13 = r4 then
  (some (S12, n))
  else
  (none)
def f_law2 (F : Nat) (xs : Nat → Int32) (L : Nat) (S0 : St) (n o1 o2 o3 o4 : Nat) (i : Int32) : Option (St × Nat) :=
  Option.bind (f_X10_load F S0 n o1) fun z1 => lt z1.1 fun r3 => lt z1.2.1 fun S2 => lt z1.2.2 fun n4 =>
  Option.bind (f_X11_load F S2 o2) fun z8 => lt z8.1 fun r10 => lt z8.2 fun S9 =>
  if r3 = r10 then
  (some (S9, n4))
  else
  (none)
def f_law3 (F : Nat) (xs : Nat → Int32) (L : Nat) (S0 : St) (n o1 o2 o3 o4 : Nat) (i : Int32) : Option (St × Nat) :=
  Option.bind (f_X10_errorCode F S0 o1) fun z1 => lt z1.1 fun r3 => lt z1.2 fun S2 =>
  Option.bind (f_X11_errorCode F S2 o2) fun z5 => lt z5.1 fun r7 => lt z5.2 fun S6 =>
  if r3 = r7 then
  (some (S6, n))
  else
  (none)
def f_law4 (F : Nat) (xs : Nat → Int32) (L : Nat) (S0 : St) (n o1 o2 o3 o4 : Nat) (i : Int32) : Option (St × Nat) :=
  Option.bind (f_X10_errorPosition F S0 o1) fun z1 => lt z1.1 fun r3 => lt z1.2 fun S2 =>
  Option.bind (f_X11_errorPosition F S2 o2) fun z5 => lt z5.1 fun r7 => lt z5.2 fun S6 =>
  if r3 = r7 then
  (some (S6, n))
  else
  (none)
def f_law5 (F : Nat) (xs : Nat → Int32) (L : Nat) (S0 : St) (n o1 o2 o3 o4 : Nat) (i : Int32) : Option (St × Nat) :=
  cki (i + 1) L <|
  Option.bind (f_L_find F S0 o1 (xs (Int32.toNatClampNeg (i + 1))) o3) fun z2 => lt z2.1 fun r4 => lt z2.2 fun S3 =>
  cki (i + 1) L <|
  Option.bind (f_X11_find F S3 o2 (xs (Int32.toNatClampNeg (i + 1)))) fun z7 => lt z7.1 fun r9 => lt z7.2 fun S8 =>
  Option.bind (f_X11_thrown F S8 o2) fun z11 => lt z11.1 fun r13 => lt z11.2 fun S12 =>
  if r13 = r4 then
  (if ¬ r4 = 0 then
  (some (S12, n))
  else
  (cki 0 (ln S12 o3) <|
  if (lg_cmp (al S12 o3 (Int32.toNatClampNeg 0)) r9.toInt64) = 0 then
  (some (S12, n))
  else
  (none)))
  else
  (none)
def f_law6 (F : Nat) (xs : Nat → Int32) (L : Nat) (S0 : St) (n o1 o2 o3 o4 : Nat) (i : Int32) : Option (St × Nat) :=
  cki (i + 1) L <|
  Option.bind (f_L_count F S0 o1 (xs (Int32.toNatClampNeg (i + 1))) o3) fun z2 => lt z2.1 fun r4 => lt z2.2 fun S3 =>
  cki (i + 1) L <|
  Option.bind (f_X11_count F S3 o2 (xs (Int32.toNatClampNeg (i + 1)))) fun z7 => lt z7.1 fun r9 => lt z7.2 fun S8 =>
  Option.bind (f_X11_thrown F S8 o2) fun z11 => lt z11.1 fun r13 => lt z11.2 fun S12 =>
  if r13 = r4 then
  (if ¬ r4 = 0 then
  (some (S12, n))
  else
  (cki 0 (ln S12 o3) <|
  if (lg_cmp (al S12 o3 (Int32.toNatClampNeg 0)) r9.toInt64) = 0 then
  (some (S12, n))
  else
  (none)))
  else
  (none)
def f_law7 (F : Nat) (xs : Nat → Int32) (L : Nat) (S0 : St) (n o1 o2 o3 o4 : Nat) (i : Int32) : Option (St × Nat) :=
  cki (i + 1) L <|
  Option.bind (f_L_members F S0 o1 (xs (Int32.toNatClampNeg (i + 1))) o3) fun z2 => lt z2.1 fun r4 => lt z2.2 fun S3 =>
  cki (i + 1) L <|
  Option.bind (f_X11_members F S3 o2 (xs (Int32.toNatClampNeg (i + 1)))) fun z7 => lt z7.1 fun r9 => lt z7.2 fun S8 =>
  Option.bind (f_X11_thrown F S8 o2) fun z11 => lt z11.1 fun r13 => lt z11.2 fun S12 =>
  if r13 = r4 then
  (if ¬ r4 = 0 then
  (some (S12, n))
  else
  (cki 0 (ln S12 o3) <|
  if (lg_cmp (al S12 o3 (Int32.toNatClampNeg 0)) r9.toInt64) = 0 then
  (some (S12, n))
  else
  (none)))
  else
  (none)
def f_law8 (F : Nat) (xs : Nat → Int32) (L : Nat) (S0 : St) (n o1 o2 o3 o4 : Nat) (i : Int32) : Option (St × Nat) :=
  cki (i + 1) L <|
  cki (i + 2) L <|
  Option.bind (f_L_retention F S0 o1 (xs (Int32.toNatClampNeg (i + 1))) (xs (Int32.toNatClampNeg (i + 2))) o3) fun z3 => lt z3.1 fun r5 => lt z3.2 fun S4 =>
  cki (i + 1) L <|
  cki (i + 2) L <|
  Option.bind (f_X11_retention F S4 o2 (xs (Int32.toNatClampNeg (i + 1))) (xs (Int32.toNatClampNeg (i + 2)))) fun z9 => lt z9.1 fun r11 => lt z9.2 fun S10 =>
  Option.bind (f_X11_thrown F S10 o2) fun z13 => lt z13.1 fun r15 => lt z13.2 fun S14 =>
  if r15 = r5 then
  (if ¬ r5 = 0 then
  (some (S14, n))
  else
  (cki 0 (ln S14 o3) <|
  if (lg_cmp (al S14 o3 (Int32.toNatClampNeg 0)) r11.toInt64) = 0 then
  (some (S14, n))
  else
  (none)))
  else
  (none)
def f_law9 (F : Nat) (xs : Nat → Int32) (L : Nat) (S0 : St) (n o1 o2 o3 o4 : Nat) (i : Int32) : Option (St × Nat) :=
  cki (i + 1) L <|
  Option.bind (f_L_ladderDays F S0 o1 (xs (Int32.toNatClampNeg (i + 1))) o3) fun z2 => lt z2.1 fun r4 => lt z2.2 fun S3 =>
  cki (i + 1) L <|
  Option.bind (f_X11_ladderDays F S3 o2 (xs (Int32.toNatClampNeg (i + 1)))) fun z7 => lt z7.1 fun r9 => lt z7.2 fun S8 =>
  Option.bind (f_X11_thrown F S8 o2) fun z11 => lt z11.1 fun r13 => lt z11.2 fun S12 =>
  if r13 = r4 then
  (if ¬ r4 = 0 then
  (some (S12, n))
  else
  (cki 0 (ln S12 o3) <|
  if (lg_cmp (al S12 o3 (Int32.toNatClampNeg 0)) r9.toInt64) = 0 then
  (some (S12, n))
  else
  (none)))
  else
  (none)
def f_law10 (F : Nat) (xs : Nat → Int32) (L : Nat) (S0 : St) (n o1 o2 o3 o4 : Nat) (i : Int32) : Option (St × Nat) :=
  Option.bind (f_X10_day F S0 o1) fun z1 => lt z1.1 fun r3 => lt z1.2 fun S2 =>
  Option.bind (f_X11_day F S2 o2) fun z5 => lt z5.1 fun r7 => lt z5.2 fun S6 =>
  if r3 = r7 then
  (some (S6, n))
  else
  (none)
def f_law11 (F : Nat) (xs : Nat → Int32) (L : Nat) (S0 : St) (n o1 o2 o3 o4 : Nat) (i : Int32) : Option (St × Nat) :=
  cki (i + 1) L <|
  cki (i + 2) L <|
  cki (i + 3) L <|
  Option.bind (f_L_deliver F S0 n o1 (xs (Int32.toNatClampNeg (i + 1))) (xs (Int32.toNatClampNeg (i + 2))) (xs (Int32.toNatClampNeg (i + 3))) o3) fun z4 => lt z4.1 fun r6 => lt z4.2.1 fun S5 => lt z4.2.2 fun n7 =>
  cki (i + 1) L <|
  cki (i + 2) L <|
  cki (i + 3) L <|
  Option.bind (f_X11_deliver F S5 o2 (xs (Int32.toNatClampNeg (i + 1))) (xs (Int32.toNatClampNeg (i + 2))) (xs (Int32.toNatClampNeg (i + 3)))) fun z14 => lt z14.1 fun r16 => lt z14.2 fun S15 =>
  Option.bind (f_X11_thrown F S15 o2) fun z18 => lt z18.1 fun r20 => lt z18.2 fun S19 =>
  if r20 = r6 then
  (if ¬ r6 = 0 then
  (some (S19, n7))
  else
  (cki 0 (ln S19 o3) <|
  if (lg_cmp (al S19 o3 (Int32.toNatClampNeg 0)) r16.toInt64) = 0 then
  (some (S19, n7))
  else
  (none)))
  else
  (none)
def f_law12 (F : Nat) (xs : Nat → Int32) (L : Nat) (S0 : St) (n o1 o2 o3 o4 : Nat) (i : Int32) : Option (St × Nat) :=
  Option.bind (f_X10_bounced F S0 o1) fun z1 => lt z1.1 fun r3 => lt z1.2 fun S2 =>
  Option.bind (f_X11_bounced F S2 o2) fun z5 => lt z5.1 fun r7 => lt z5.2 fun S6 =>
  if r3 = r7 then
  (some (S6, n))
  else
  (none)
def f_law13 (F : Nat) (xs : Nat → Int32) (L : Nat) (S0 : St) (n o1 o2 o3 o4 : Nat) (i : Int32) : Option (St × Nat) :=
  Option.bind (f_X10_messageCount F S0 o1) fun z1 => lt z1.1 fun r3 => lt z1.2 fun S2 =>
  Option.bind (f_X11_messageCount F S2 o2) fun z5 => lt z5.1 fun r7 => lt z5.2 fun S6 =>
  if r3 = r7 then
  (some (S6, n))
  else
  (none)
def f_law14 (F : Nat) (xs : Nat → Int32) (L : Nat) (S0 : St) (n o1 o2 o3 o4 : Nat) (i : Int32) : Option (St × Nat) :=
  cki (i + 1) L <|
  cki (i + 2) L <|
  Option.bind (f_L_message F S0 o1 (xs (Int32.toNatClampNeg (i + 1))) (xs (Int32.toNatClampNeg (i + 2))) o3) fun z3 => lt z3.1 fun r5 => lt z3.2 fun S4 =>
  cki (i + 1) L <|
  cki (i + 2) L <|
  Option.bind (f_X11_message F S4 o2 (xs (Int32.toNatClampNeg (i + 1))) (xs (Int32.toNatClampNeg (i + 2)))) fun z9 => lt z9.1 fun r11 => lt z9.2 fun S10 =>
  Option.bind (f_X11_thrown F S10 o2) fun z13 => lt z13.1 fun r15 => lt z13.2 fun S14 =>
  if r15 = r5 then
  (if ¬ r5 = 0 then
  (some (S14, n))
  else
  (cki 0 (ln S14 o3) <|
  if (lg_cmp (al S14 o3 (Int32.toNatClampNeg 0)) r11.toInt64) = 0 then
  (some (S14, n))
  else
  (none)))
  else
  (none)
def f_law15 (F : Nat) (xs : Nat → Int32) (L : Nat) (S0 : St) (n o1 o2 o3 o4 : Nat) (i : Int32) : Option (St × Nat) :=
  cki (i + 1) L <|
  cki (i + 2) L <|
  Option.bind (f_L_partOf F S0 o1 (xs (Int32.toNatClampNeg (i + 1))) (xs (Int32.toNatClampNeg (i + 2))) o3) fun z3 => lt z3.1 fun r5 => lt z3.2 fun S4 =>
  cki (i + 1) L <|
  cki (i + 2) L <|
  Option.bind (f_X11_partOf F S4 o2 (xs (Int32.toNatClampNeg (i + 1))) (xs (Int32.toNatClampNeg (i + 2)))) fun z9 => lt z9.1 fun r11 => lt z9.2 fun S10 =>
  Option.bind (f_X11_thrown F S10 o2) fun z13 => lt z13.1 fun r15 => lt z13.2 fun S14 =>
  if r15 = r5 then
  (if ¬ r5 = 0 then
  (some (S14, n))
  else
  (cki 0 (ln S14 o3) <|
  if (lg_cmp (al S14 o3 (Int32.toNatClampNeg 0)) r11.toInt64) = 0 then
  (some (S14, n))
  else
  (none)))
  else
  (none)
def f_law16 (F : Nat) (xs : Nat → Int32) (L : Nat) (S0 : St) (n o1 o2 o3 o4 : Nat) (i : Int32) : Option (St × Nat) :=
  cki (i + 1) L <|
  Option.bind (f_L_readers F S0 o1 (xs (Int32.toNatClampNeg (i + 1))) o3) fun z2 => lt z2.1 fun r4 => lt z2.2 fun S3 =>
  cki (i + 1) L <|
  Option.bind (f_X11_readers F S3 o2 (xs (Int32.toNatClampNeg (i + 1)))) fun z7 => lt z7.1 fun r9 => lt z7.2 fun S8 =>
  Option.bind (f_X11_thrown F S8 o2) fun z11 => lt z11.1 fun r13 => lt z11.2 fun S12 =>
  if r13 = r4 then
  (if ¬ r4 = 0 then
  (some (S12, n))
  else
  (cki 0 (ln S12 o3) <|
  if (lg_cmp (al S12 o3 (Int32.toNatClampNeg 0)) r9.toInt64) = 0 then
  (some (S12, n))
  else
  (none)))
  else
  (none)
def f_law17 (F : Nat) (xs : Nat → Int32) (L : Nat) (S0 : St) (n o1 o2 o3 o4 : Nat) (i : Int32) : Option (St × Nat) :=
  cki (i + 1) L <|
  Option.bind (f_L_hidden F S0 o1 (xs (Int32.toNatClampNeg (i + 1))) o3) fun z2 => lt z2.1 fun r4 => lt z2.2 fun S3 =>
  cki (i + 1) L <|
  Option.bind (f_X11_hidden F S3 o2 (xs (Int32.toNatClampNeg (i + 1)))) fun z7 => lt z7.1 fun r9 => lt z7.2 fun S8 =>
  Option.bind (f_X11_thrown F S8 o2) fun z11 => lt z11.1 fun r13 => lt z11.2 fun S12 =>
  if r13 = r4 then
  (if ¬ r4 = 0 then
  (some (S12, n))
  else
  (cki 0 (ln S12 o3) <|
  if (lg_cmp (al S12 o3 (Int32.toNatClampNeg 0)) r9.toInt64) = 0 then
  (some (S12, n))
  else
  (none)))
  else
  (none)
def f_law18 (F : Nat) (xs : Nat → Int32) (L : Nat) (S0 : St) (n o1 o2 o3 o4 : Nat) (i : Int32) : Option (St × Nat) :=
  cki (i + 1) L <|
  cki (i + 2) L <|
  Option.bind (f_L_state F S0 o1 (xs (Int32.toNatClampNeg (i + 1))) (xs (Int32.toNatClampNeg (i + 2))) o3) fun z3 => lt z3.1 fun r5 => lt z3.2 fun S4 =>
  cki (i + 1) L <|
  cki (i + 2) L <|
  Option.bind (f_X11_state F S4 o2 (xs (Int32.toNatClampNeg (i + 1))) (xs (Int32.toNatClampNeg (i + 2)))) fun z9 => lt z9.1 fun r11 => lt z9.2 fun S10 =>
  Option.bind (f_X11_thrown F S10 o2) fun z13 => lt z13.1 fun r15 => lt z13.2 fun S14 =>
  if r15 = r5 then
  (if ¬ r5 = 0 then
  (some (S14, n))
  else
  (cki 0 (ln S14 o3) <|
  if (lg_cmp (al S14 o3 (Int32.toNatClampNeg 0)) r11.toInt64) = 0 then
  (some (S14, n))
  else
  (none)))
  else
  (none)
def f_law19 (F : Nat) (xs : Nat → Int32) (L : Nat) (S0 : St) (n o1 o2 o3 o4 : Nat) (i : Int32) : Option (St × Nat) :=
  cki (i + 1) L <|
  cki (i + 2) L <|
  Option.bind (f_L_classOf F S0 o1 (xs (Int32.toNatClampNeg (i + 1))) (xs (Int32.toNatClampNeg (i + 2))) o3) fun z3 => lt z3.1 fun r5 => lt z3.2 fun S4 =>
  cki (i + 1) L <|
  cki (i + 2) L <|
  Option.bind (f_X11_classOf F S4 o2 (xs (Int32.toNatClampNeg (i + 1))) (xs (Int32.toNatClampNeg (i + 2)))) fun z9 => lt z9.1 fun r11 => lt z9.2 fun S10 =>
  Option.bind (f_X11_thrown F S10 o2) fun z13 => lt z13.1 fun r15 => lt z13.2 fun S14 =>
  if r15 = r5 then
  (if ¬ r5 = 0 then
  (some (S14, n))
  else
  (cki 0 (ln S14 o3) <|
  if (lg_cmp (al S14 o3 (Int32.toNatClampNeg 0)) r11.toInt64) = 0 then
  (some (S14, n))
  else
  (none)))
  else
  (none)
def f_law20 (F : Nat) (xs : Nat → Int32) (L : Nat) (S0 : St) (n o1 o2 o3 o4 : Nat) (i : Int32) : Option (St × Nat) :=
  cki (i + 1) L <|
  cki (i + 2) L <|
  Option.bind (f_L_enteredOn F S0 o1 (xs (Int32.toNatClampNeg (i + 1))) (xs (Int32.toNatClampNeg (i + 2))) o3) fun z3 => lt z3.1 fun r5 => lt z3.2 fun S4 =>
  cki (i + 1) L <|
  cki (i + 2) L <|
  Option.bind (f_X11_enteredOn F S4 o2 (xs (Int32.toNatClampNeg (i + 1))) (xs (Int32.toNatClampNeg (i + 2)))) fun z9 => lt z9.1 fun r11 => lt z9.2 fun S10 =>
  Option.bind (f_X11_thrown F S10 o2) fun z13 => lt z13.1 fun r15 => lt z13.2 fun S14 =>
  if r15 = r5 then
  (if ¬ r5 = 0 then
  (some (S14, n))
  else
  (cki 0 (ln S14 o3) <|
  if (lg_cmp (al S14 o3 (Int32.toNatClampNeg 0)) r11.toInt64) = 0 then
  (some (S14, n))
  else
  (none)))
  else
  (none)
def f_law21 (F : Nat) (xs : Nat → Int32) (L : Nat) (S0 : St) (n o1 o2 o3 o4 : Nat) (i : Int32) : Option (St × Nat) :=
  cki (i + 1) L <|
  cki (i + 2) L <|
  Option.bind (f_L_expiresOn F S0 o1 (xs (Int32.toNatClampNeg (i + 1))) (xs (Int32.toNatClampNeg (i + 2))) o3) fun z3 => lt z3.1 fun r5 => lt z3.2 fun S4 =>
  cki (i + 1) L <|
  cki (i + 2) L <|
  Option.bind (f_X11_expiresOn F S4 o2 (xs (Int32.toNatClampNeg (i + 1))) (xs (Int32.toNatClampNeg (i + 2)))) fun z9 => lt z9.1 fun r11 => lt z9.2 fun S10 =>
  Option.bind (f_X11_thrown F S10 o2) fun z13 => lt z13.1 fun r15 => lt z13.2 fun S14 =>
  if r15 = r5 then
  (if ¬ r5 = 0 then
  (some (S14, n))
  else
  (cki 0 (ln S14 o3) <|
  if (lg_cmp (al S14 o3 (Int32.toNatClampNeg 0)) r11.toInt64) = 0 then
  (some (S14, n))
  else
  (none)))
  else
  (none)
def f_law22 (F : Nat) (xs : Nat → Int32) (L : Nat) (S0 : St) (n o1 o2 o3 o4 : Nat) (i : Int32) : Option (St × Nat) :=
  cki (i + 1) L <|
  cki (i + 2) L <|
  Option.bind (f_L_isKept F S0 o1 (xs (Int32.toNatClampNeg (i + 1))) (xs (Int32.toNatClampNeg (i + 2))) o3) fun z3 => lt z3.1 fun r5 => lt z3.2 fun S4 =>
  cki (i + 1) L <|
  cki (i + 2) L <|
  Option.bind (f_X11_isKept F S4 o2 (xs (Int32.toNatClampNeg (i + 1))) (xs (Int32.toNatClampNeg (i + 2)))) fun z9 => lt z9.1 fun r11 => lt z9.2 fun S10 =>
  Option.bind (f_X11_thrown F S10 o2) fun z13 => lt z13.1 fun r15 => lt z13.2 fun S14 =>
  if r15 = r5 then
  (if ¬ r5 = 0 then
  (some (S14, n))
  else
  (cki 0 (ln S14 o3) <|
  if r11 = 0 then
  (if (lg_cmp (al S14 o3 (Int32.toNatClampNeg 0)) 0) = 0 then
  (some (S14, n))
  else
  (none))
  else
  (if (lg_cmp (al S14 o3 (Int32.toNatClampNeg 0)) 1) = 0 then
  (some (S14, n))
  else
  (none))))
  else
  (none)
def f_law23 (F : Nat) (xs : Nat → Int32) (L : Nat) (S0 : St) (n o1 o2 o3 o4 : Nat) (i : Int32) : Option (St × Nat) :=
  cki (i + 1) L <|
  cki (i + 2) L <|
  Option.bind (f_L_holdsOn F S0 o1 (xs (Int32.toNatClampNeg (i + 1))) (xs (Int32.toNatClampNeg (i + 2))) o3) fun z3 => lt z3.1 fun r5 => lt z3.2 fun S4 =>
  cki (i + 1) L <|
  cki (i + 2) L <|
  Option.bind (f_X11_holdsOn F S4 o2 (xs (Int32.toNatClampNeg (i + 1))) (xs (Int32.toNatClampNeg (i + 2)))) fun z9 => lt z9.1 fun r11 => lt z9.2 fun S10 =>
  Option.bind (f_X11_thrown F S10 o2) fun z13 => lt z13.1 fun r15 => lt z13.2 fun S14 =>
  if r15 = r5 then
  (if ¬ r5 = 0 then
  (some (S14, n))
  else
  (cki 0 (ln S14 o3) <|
  if (lg_cmp (al S14 o3 (Int32.toNatClampNeg 0)) r11.toInt64) = 0 then
  (some (S14, n))
  else
  (none)))
  else
  (none)
def f_law24 (F : Nat) (xs : Nat → Int32) (L : Nat) (S0 : St) (n o1 o2 o3 o4 : Nat) (i : Int32) : Option (St × Nat) :=
  Option.bind (f_X10_storedParts F S0 o1) fun z1 => lt z1.1 fun r3 => lt z1.2 fun S2 =>
  Option.bind (f_X11_storedParts F S2 o2) fun z5 => lt z5.1 fun r7 => lt z5.2 fun S6 =>
  if r3 = r7 then
  (some (S6, n))
  else
  (none)
def f_law25 (F : Nat) (xs : Nat → Int32) (L : Nat) (S0 : St) (n o1 o2 o3 o4 : Nat) (i : Int32) : Option (St × Nat) :=
  cki (i + 1) L <|
  Option.bind (f_L_storedPart F S0 o1 (xs (Int32.toNatClampNeg (i + 1))) o3) fun z2 => lt z2.1 fun r4 => lt z2.2 fun S3 =>
  cki (i + 1) L <|
  Option.bind (f_X11_storedPart F S3 o2 (xs (Int32.toNatClampNeg (i + 1)))) fun z7 => lt z7.1 fun r9 => lt z7.2 fun S8 =>
  Option.bind (f_X11_thrown F S8 o2) fun z11 => lt z11.1 fun r13 => lt z11.2 fun S12 =>
  if r13 = r4 then
  (if ¬ r4 = 0 then
  (some (S12, n))
  else
  (cki 0 (ln S12 o3) <|
  if (lg_cmp (al S12 o3 (Int32.toNatClampNeg 0)) r9.toInt64) = 0 then
  (some (S12, n))
  else
  (none)))
  else
  (none)
def f_law26 (F : Nat) (xs : Nat → Int32) (L : Nat) (S0 : St) (n o1 o2 o3 o4 : Nat) (i : Int32) : Option (St × Nat) :=
  cki (i + 1) L <|
  cki (i + 2) L <|
  Option.bind (f_L_part F S0 o1 (xs (Int32.toNatClampNeg (i + 1))) (xs (Int32.toNatClampNeg (i + 2))) o3) fun z3 => lt z3.1 fun r5 => lt z3.2 fun S4 =>
  cki (i + 1) L <|
  cki (i + 2) L <|
  Option.bind (f_X11_part F S4 o2 (xs (Int32.toNatClampNeg (i + 1))) (xs (Int32.toNatClampNeg (i + 2)))) fun z9 => lt z9.1 fun r11 => lt z9.2 fun S10 =>
  Option.bind (f_X11_thrown F S10 o2) fun z13 => lt z13.1 fun r15 => lt z13.2 fun S14 =>
  if r15 = r5 then
  (if ¬ r5 = 0 then
  (some (S14, n))
  else
  (cki 0 (ln S14 o3) <|
  if (lg_cmp (al S14 o3 (Int32.toNatClampNeg 0)) r11.toInt64) = 0 then
  (some (S14, n))
  else
  (none)))
  else
  (none)
def f_law27 (F : Nat) (xs : Nat → Int32) (L : Nat) (S0 : St) (n o1 o2 o3 o4 : Nat) (i : Int32) : Option (St × Nat) :=
  cki (i + 1) L <|
  cki (i + 2) L <|
  Option.bind (f_L_partByte F S0 o1 (xs (Int32.toNatClampNeg (i + 1))) (xs (Int32.toNatClampNeg (i + 2))) o3) fun z3 => lt z3.1 fun r5 => lt z3.2 fun S4 =>
  cki (i + 1) L <|
  cki (i + 2) L <|
  Option.bind (f_X11_partByte F S4 o2 (xs (Int32.toNatClampNeg (i + 1))) (xs (Int32.toNatClampNeg (i + 2)))) fun z9 => lt z9.1 fun r11 => lt z9.2 fun S10 =>
  Option.bind (f_X11_thrown F S10 o2) fun z13 => lt z13.1 fun r15 => lt z13.2 fun S14 =>
  if r15 = r5 then
  (if ¬ r5 = 0 then
  (some (S14, n))
  else
  (cki 0 (ln S14 o3) <|
  if (lg_cmp (al S14 o3 (Int32.toNatClampNeg 0)) r11.toInt64) = 0 then
  (some (S14, n))
  else
  (none)))
  else
  (none)
def f_law28 (F : Nat) (xs : Nat → Int32) (L : Nat) (S0 : St) (n o1 o2 o3 o4 : Nat) (i : Int32) : Option (St × Nat) :=
  cki (i + 1) L <|
  Option.bind (f_L_digest F S0 o1 (xs (Int32.toNatClampNeg (i + 1))) o3) fun z2 => lt z2.1 fun r4 => lt z2.2 fun S3 =>
  cki (i + 1) L <|
  Option.bind (f_X11_digest F S3 o2 (xs (Int32.toNatClampNeg (i + 1)))) fun z7 => lt z7.1 fun r9 => lt z7.2 fun S8 =>
  Option.bind (f_X11_thrown F S8 o2) fun z11 => lt z11.1 fun r13 => lt z11.2 fun S12 =>
  if r13 = r4 then
  (if ¬ r4 = 0 then
  (some (S12, n))
  else
  (cki 0 (ln S12 o3) <|
  if (lg_cmp (al S12 o3 (Int32.toNatClampNeg 0)) r9) = 0 then
  (some (S12, n))
  else
  (none)))
  else
  (none)
def f_law29 (F : Nat) (xs : Nat → Int32) (L : Nat) (S0 : St) (n o1 o2 o3 o4 : Nat) (i : Int32) : Option (St × Nat) :=
  Option.bind (f_X10_storedBytes F S0 o1) fun z1 => lt z1.1 fun r3 => lt z1.2 fun S2 =>
  Option.bind (f_X11_storedBytes F S2 o2) fun z5 => lt z5.1 fun r7 => lt z5.2 fun S6 =>
  if r3 = r7 then
  (some (S6, n))
  else
  (none)
def f_law30 (F : Nat) (xs : Nat → Int32) (L : Nat) (S0 : St) (n o1 o2 o3 o4 : Nat) (i : Int32) : Option (St × Nat) :=
  Option.bind (f_X10_deadBytes F S0 o1) fun z1 => lt z1.1 fun r3 => lt z1.2 fun S2 =>
  Option.bind (f_X11_deadBytes F S2 o2) fun z5 => lt z5.1 fun r7 => lt z5.2 fun S6 =>
  if r3 = r7 then
  (some (S6, n))
  else
  (none)
def f_law31 (F : Nat) (xs : Nat → Int32) (L : Nat) (S0 : St) (n o1 o2 o3 o4 : Nat) (i : Int32) : Option (St × Nat) :=
  Option.bind (f_X10_logicalBytes F S0 o1) fun z1 => lt z1.1 fun r3 => lt z1.2 fun S2 =>
  Option.bind (f_X11_logicalBytes F S2 o2) fun z5 => lt z5.1 fun r7 => lt z5.2 fun S6 =>
  if r3 = r7 then
  (some (S6, n))
  else
  (none)
def f_law32 (F : Nat) (xs : Nat → Int32) (L : Nat) (S0 : St) (n o1 o2 o3 o4 : Nat) (i : Int32) : Option (St × Nat) :=
  Option.bind (f_X10_mostShared F S0 o1) fun z1 => lt z1.1 fun r3 => lt z1.2 fun S2 =>
  Option.bind (f_X11_mostShared F S2 o2) fun z5 => lt z5.1 fun r7 => lt z5.2 fun S6 =>
  if r3 = r7 then
  (some (S6, n))
  else
  (none)
def f_law33 (F : Nat) (xs : Nat → Int32) (L : Nat) (S0 : St) (n o1 o2 o3 o4 : Nat) (i : Int32) : Option (St × Nat) :=
  cki (i + 1) L <|
  Option.bind (f_L_usage F S0 o1 (xs (Int32.toNatClampNeg (i + 1))) o3) fun z2 => lt z2.1 fun r4 => lt z2.2 fun S3 =>
  cki (i + 1) L <|
  Option.bind (f_X11_usage F S3 o2 (xs (Int32.toNatClampNeg (i + 1)))) fun z7 => lt z7.1 fun r9 => lt z7.2 fun S8 =>
  Option.bind (f_X11_thrown F S8 o2) fun z11 => lt z11.1 fun r13 => lt z11.2 fun S12 =>
  if r13 = r4 then
  (if ¬ r4 = 0 then
  (some (S12, n))
  else
  (cki 0 (ln S12 o3) <|
  if (lg_cmp (al S12 o3 (Int32.toNatClampNeg 0)) r9.toInt64) = 0 then
  (some (S12, n))
  else
  (none)))
  else
  (none)
def f_law34 (F : Nat) (xs : Nat → Int32) (L : Nat) (S0 : St) (n o1 o2 o3 o4 : Nat) (i : Int32) : Option (St × Nat) :=
  cki (i + 1) L <|
  Option.bind (f_L_quota F S0 o1 (xs (Int32.toNatClampNeg (i + 1))) o3) fun z2 => lt z2.1 fun r4 => lt z2.2 fun S3 =>
  cki (i + 1) L <|
  Option.bind (f_X11_quota F S3 o2 (xs (Int32.toNatClampNeg (i + 1)))) fun z7 => lt z7.1 fun r9 => lt z7.2 fun S8 =>
  Option.bind (f_X11_thrown F S8 o2) fun z11 => lt z11.1 fun r13 => lt z11.2 fun S12 =>
  if r13 = r4 then
  (if ¬ r4 = 0 then
  (some (S12, n))
  else
  (cki 0 (ln S12 o3) <|
  if (lg_cmp (al S12 o3 (Int32.toNatClampNeg 0)) r9.toInt64) = 0 then
  (some (S12, n))
  else
  (none)))
  else
  (none)
def f_law35 (F : Nat) (xs : Nat → Int32) (L : Nat) (S0 : St) (n o1 o2 o3 o4 : Nat) (i : Int32) : Option (St × Nat) :=
  cki (i + 1) L <|
  Option.bind (f_L_fairShare F S0 o1 (xs (Int32.toNatClampNeg (i + 1))) o4) fun z2 => lt z2.1 fun r4 => lt z2.2 fun S3 =>
  cki (i + 1) L <|
  Option.bind (f_X11_fairShare F S3 o2 (xs (Int32.toNatClampNeg (i + 1)))) fun z7 => lt z7.1 fun r9 => lt z7.2 fun S8 =>
  Option.bind (f_X11_thrown F S8 o2) fun z11 => lt z11.1 fun r13 => lt z11.2 fun S12 =>
  if r13 = r4 then
  (if ¬ r4 = 0 then
  (some (S12, n))
  else
  (cki 0 (ln S12 o4) <|
  if (Op.cmpValue (FP.dcmp (Int64.toUInt64 (al S12 o4 (Int32.toNatClampNeg 0))) r9) CmpOp.l) = 0 then
  (some (S12, n))
  else
  (cki 0 (ln S12 o4) <|
  cki 0 (ln S12 o4) <|
  if (Op.cmpValue (FP.dcmp (Int64.toUInt64 (al S12 o4 (Int32.toNatClampNeg 0))) (Int64.toUInt64 (al S12 o4 (Int32.toNatClampNeg 0)))) CmpOp.l) = 0 then
  (none)
  else
  (if ¬ (Op.cmpValue (FP.dcmp r9 r9) CmpOp.l) = 0 then
  (some (S12, n))
  else
  (none)))))
  else
  (none)
def f_law36 (F : Nat) (xs : Nat → Int32) (L : Nat) (S0 : St) (n o1 o2 o3 o4 : Nat) (i : Int32) : Option (St × Nat) :=
  cki (i + 1) L <|
  cki (i + 2) L <|
  Option.bind (f_L_inClass F S0 o1 (xs (Int32.toNatClampNeg (i + 1))) (xs (Int32.toNatClampNeg (i + 2))) o3) fun z3 => lt z3.1 fun r5 => lt z3.2 fun S4 =>
  cki (i + 1) L <|
  cki (i + 2) L <|
  Option.bind (f_X11_inClass F S4 o2 (xs (Int32.toNatClampNeg (i + 1))) (xs (Int32.toNatClampNeg (i + 2)))) fun z9 => lt z9.1 fun r11 => lt z9.2 fun S10 =>
  Option.bind (f_X11_thrown F S10 o2) fun z13 => lt z13.1 fun r15 => lt z13.2 fun S14 =>
  if r15 = r5 then
  (if ¬ r5 = 0 then
  (some (S14, n))
  else
  (cki 0 (ln S14 o3) <|
  if (lg_cmp (al S14 o3 (Int32.toNatClampNeg 0)) r11.toInt64) = 0 then
  (some (S14, n))
  else
  (none)))
  else
  (none)
def f_law37 (F : Nat) (xs : Nat → Int32) (L : Nat) (S0 : St) (n o1 o2 o3 o4 : Nat) (i : Int32) : Option (St × Nat) :=
  cki (i + 1) L <|
  Option.bind (f_L_matches F S0 o1 (xs (Int32.toNatClampNeg (i + 1))) o3) fun z2 => lt z2.1 fun r4 => lt z2.2 fun S3 =>
  cki (i + 1) L <|
  Option.bind (f_X11_matches F S3 o2 (xs (Int32.toNatClampNeg (i + 1)))) fun z7 => lt z7.1 fun r9 => lt z7.2 fun S8 =>
  Option.bind (f_X11_thrown F S8 o2) fun z11 => lt z11.1 fun r13 => lt z11.2 fun S12 =>
  if r13 = r4 then
  (if ¬ r4 = 0 then
  (some (S12, n))
  else
  (cki 0 (ln S12 o3) <|
  if (lg_cmp (al S12 o3 (Int32.toNatClampNeg 0)) r9.toInt64) = 0 then
  (some (S12, n))
  else
  (none)))
  else
  (none)
def f_law38 (F : Nat) (xs : Nat → Int32) (L : Nat) (S0 : St) (n o1 o2 o3 o4 : Nat) (i : Int32) : Option (St × Nat) :=
  cki (i + 1) L <|
  cki (i + 2) L <|
  Option.bind (f_L_commonBytes F S0 o1 (xs (Int32.toNatClampNeg (i + 1))) (xs (Int32.toNatClampNeg (i + 2))) o3) fun z3 => lt z3.1 fun r5 => lt z3.2 fun S4 =>
  cki (i + 1) L <|
  cki (i + 2) L <|
  Option.bind (f_X11_commonBytes F S4 o2 (xs (Int32.toNatClampNeg (i + 1))) (xs (Int32.toNatClampNeg (i + 2)))) fun z9 => lt z9.1 fun r11 => lt z9.2 fun S10 =>
  Option.bind (f_X11_thrown F S10 o2) fun z13 => lt z13.1 fun r15 => lt z13.2 fun S14 =>
  if r15 = r5 then
  (if ¬ r5 = 0 then
  (some (S14, n))
  else
  (cki 0 (ln S14 o3) <|
  if (lg_cmp (al S14 o3 (Int32.toNatClampNeg 0)) r11.toInt64) = 0 then
  (some (S14, n))
  else
  (none)))
  else
  (none)
def f_law39 (F : Nat) (xs : Nat → Int32) (L : Nat) (S0 : St) (n o1 o2 o3 o4 : Nat) (i : Int32) : Option (St × Nat) :=
  cki (i + 1) L <|
  cki (i + 2) L <|
  cki (i + 3) L <|
  Option.bind (f_L_file F S0 o1 (xs (Int32.toNatClampNeg (i + 1))) (xs (Int32.toNatClampNeg (i + 2))) (xs (Int32.toNatClampNeg (i + 3))) o3) fun z4 => lt z4.1 fun r6 => lt z4.2 fun S5 =>
  cki (i + 1) L <|
  cki (i + 2) L <|
  cki (i + 3) L <|
  Option.bind (f_X11_file F S5 o2 (xs (Int32.toNatClampNeg (i + 1))) (xs (Int32.toNatClampNeg (i + 2))) (xs (Int32.toNatClampNeg (i + 3)))) fun z11 => lt z11.1 fun r13 => lt z11.2 fun S12 =>
  Option.bind (f_X11_thrown F S12 o2) fun z15 => lt z15.1 fun r17 => lt z15.2 fun S16 =>
  if r17 = r6 then
  (if ¬ r6 = 0 then
  (some (S16, n))
  else
  (cki 0 (ln S16 o3) <|
  if (lg_cmp (al S16 o3 (Int32.toNatClampNeg 0)) r13.toInt64) = 0 then
  (some (S16, n))
  else
  (none)))
  else
  (none)
def f_law40 (F : Nat) (xs : Nat → Int32) (L : Nat) (S0 : St) (n o1 o2 o3 o4 : Nat) (i : Int32) : Option (St × Nat) :=
  cki (i + 1) L <|
  cki (i + 2) L <|
  Option.bind (f_L_delete F S0 o1 (xs (Int32.toNatClampNeg (i + 1))) (xs (Int32.toNatClampNeg (i + 2))) o3) fun z3 => lt z3.1 fun r5 => lt z3.2 fun S4 =>
  cki (i + 1) L <|
  cki (i + 2) L <|
  Option.bind (f_X11_delete F S4 o2 (xs (Int32.toNatClampNeg (i + 1))) (xs (Int32.toNatClampNeg (i + 2)))) fun z9 => lt z9.1 fun r11 => lt z9.2 fun S10 =>
  Option.bind (f_X11_thrown F S10 o2) fun z13 => lt z13.1 fun r15 => lt z13.2 fun S14 =>
  if r15 = r5 then
  (if ¬ r5 = 0 then
  (some (S14, n))
  else
  (cki 0 (ln S14 o3) <|
  if (lg_cmp (al S14 o3 (Int32.toNatClampNeg 0)) r11.toInt64) = 0 then
  (some (S14, n))
  else
  (none)))
  else
  (none)
def f_law41 (F : Nat) (xs : Nat → Int32) (L : Nat) (S0 : St) (n o1 o2 o3 o4 : Nat) (i : Int32) : Option (St × Nat) :=
  cki (i + 1) L <|
  cki (i + 2) L <|
  Option.bind (f_L_recover F S0 o1 (xs (Int32.toNatClampNeg (i + 1))) (xs (Int32.toNatClampNeg (i + 2))) o3) fun z3 => lt z3.1 fun r5 => lt z3.2 fun S4 =>
  cki (i + 1) L <|
  cki (i + 2) L <|
  Option.bind (f_X11_recover F S4 o2 (xs (Int32.toNatClampNeg (i + 1))) (xs (Int32.toNatClampNeg (i + 2)))) fun z9 => lt z9.1 fun r11 => lt z9.2 fun S10 =>
  Option.bind (f_X11_thrown F S10 o2) fun z13 => lt z13.1 fun r15 => lt z13.2 fun S14 =>
  if r15 = r5 then
  (if ¬ r5 = 0 then
  (some (S14, n))
  else
  (cki 0 (ln S14 o3) <|
  if (lg_cmp (al S14 o3 (Int32.toNatClampNeg 0)) r11.toInt64) = 0 then
  (some (S14, n))
  else
  (none)))
  else
  (none)
def f_law42 (F : Nat) (xs : Nat → Int32) (L : Nat) (S0 : St) (n o1 o2 o3 o4 : Nat) (i : Int32) : Option (St × Nat) :=
  cki (i + 1) L <|
  Option.bind (f_L_isActive F S0 o1 (xs (Int32.toNatClampNeg (i + 1))) o3) fun z2 => lt z2.1 fun r4 => lt z2.2 fun S3 =>
  cki (i + 1) L <|
  Option.bind (f_X11_isActive F S3 o2 (xs (Int32.toNatClampNeg (i + 1)))) fun z7 => lt z7.1 fun r9 => lt z7.2 fun S8 =>
  Option.bind (f_X11_thrown F S8 o2) fun z11 => lt z11.1 fun r13 => lt z11.2 fun S12 =>
  if r13 = r4 then
  (if ¬ r4 = 0 then
  (some (S12, n))
  else
  (cki 0 (ln S12 o3) <|
  if r9 = 0 then
  (if (lg_cmp (al S12 o3 (Int32.toNatClampNeg 0)) 0) = 0 then
  (some (S12, n))
  else
  (none))
  else
  (if (lg_cmp (al S12 o3 (Int32.toNatClampNeg 0)) 1) = 0 then
  (some (S12, n))
  else
  (none))))
  else
  (none)
def f_law43 (F : Nat) (xs : Nat → Int32) (L : Nat) (S0 : St) (n o1 o2 o3 o4 : Nat) (i : Int32) : Option (St × Nat) :=
  cki (i + 1) L <|
  cki (i + 2) L <|
  if (xs (Int32.toNatClampNeg (i + 2))) = 0 then
  (Option.bind (f_L_setHold F S0 o1 (xs (Int32.toNatClampNeg (i + 1))) ((0 : Int32)) o3) fun z4 => lt z4.1 fun r6 => lt z4.2 fun S5 =>
  cki (i + 1) L <|
  cki (i + 2) L <|
  if (xs (Int32.toNatClampNeg (i + 2))) = 0 then
  (Option.bind (f_X11_setHold F S5 o2 (xs (Int32.toNatClampNeg (i + 1))) ((0 : Int32))) fun z11 => lt z11.1 fun r13 => lt z11.2 fun S12 =>
  Option.bind (f_X11_thrown F S12 o2) fun z15 => lt z15.1 fun r17 => lt z15.2 fun S16 =>
  if r17 = r6 then
  (if ¬ r6 = 0 then
  (some (S16, n))
  else
  (cki 0 (ln S16 o3) <|
  if (lg_cmp (al S16 o3 (Int32.toNatClampNeg 0)) r13.toInt64) = 0 then
  (some (S16, n))
  else
  (none)))
  else
  (none))
  else
  (Option.bind (f_X11_setHold F S5 o2 (xs (Int32.toNatClampNeg (i + 1))) ((1 : Int32))) fun z23 => lt z23.1 fun r25 => lt z23.2 fun S24 =>
  Option.bind (f_X11_thrown F S24 o2) fun z27 => lt z27.1 fun r29 => lt z27.2 fun S28 =>
  if r29 = r6 then
  (if ¬ r6 = 0 then
  (some (S28, n))
  else
  (cki 0 (ln S28 o3) <|
  if (lg_cmp (al S28 o3 (Int32.toNatClampNeg 0)) r25.toInt64) = 0 then
  (some (S28, n))
  else
  (none)))
  else
  (none)))
  else
  (Option.bind (f_L_setHold F S0 o1 (xs (Int32.toNatClampNeg (i + 1))) ((1 : Int32)) o3) fun z35 => lt z35.1 fun r37 => lt z35.2 fun S36 =>
  cki (i + 1) L <|
  cki (i + 2) L <|
  if (xs (Int32.toNatClampNeg (i + 2))) = 0 then
  (Option.bind (f_X11_setHold F S36 o2 (xs (Int32.toNatClampNeg (i + 1))) ((0 : Int32))) fun z42 => lt z42.1 fun r44 => lt z42.2 fun S43 =>
  Option.bind (f_X11_thrown F S43 o2) fun z46 => lt z46.1 fun r48 => lt z46.2 fun S47 =>
  if r48 = r37 then
  (if ¬ r37 = 0 then
  (some (S47, n))
  else
  (cki 0 (ln S47 o3) <|
  if (lg_cmp (al S47 o3 (Int32.toNatClampNeg 0)) r44.toInt64) = 0 then
  (some (S47, n))
  else
  (none)))
  else
  (none))
  else
  (Option.bind (f_X11_setHold F S36 o2 (xs (Int32.toNatClampNeg (i + 1))) ((1 : Int32))) fun z54 => lt z54.1 fun r56 => lt z54.2 fun S55 =>
  Option.bind (f_X11_thrown F S55 o2) fun z58 => lt z58.1 fun r60 => lt z58.2 fun S59 =>
  if r60 = r37 then
  (if ¬ r37 = 0 then
  (some (S59, n))
  else
  (cki 0 (ln S59 o3) <|
  if (lg_cmp (al S59 o3 (Int32.toNatClampNeg 0)) r56.toInt64) = 0 then
  (some (S59, n))
  else
  (none)))
  else
  (none)))
def f_law44 (F : Nat) (xs : Nat → Int32) (L : Nat) (S0 : St) (n o1 o2 o3 o4 : Nat) (i : Int32) : Option (St × Nat) :=
  cki (i + 1) L <|
  Option.bind (f_L_heldOnlyBy F S0 o1 (xs (Int32.toNatClampNeg (i + 1))) o3) fun z2 => lt z2.1 fun r4 => lt z2.2 fun S3 =>
  cki (i + 1) L <|
  Option.bind (f_X11_heldOnlyBy F S3 o2 (xs (Int32.toNatClampNeg (i + 1)))) fun z7 => lt z7.1 fun r9 => lt z7.2 fun S8 =>
  Option.bind (f_X11_thrown F S8 o2) fun z11 => lt z11.1 fun r13 => lt z11.2 fun S12 =>
  if r13 = r4 then
  (if ¬ r4 = 0 then
  (some (S12, n))
  else
  (cki 0 (ln S12 o3) <|
  if (lg_cmp (al S12 o3 (Int32.toNatClampNeg 0)) r9.toInt64) = 0 then
  (some (S12, n))
  else
  (none)))
  else
  (none)
def f_law45 (F : Nat) (xs : Nat → Int32) (L : Nat) (S0 : St) (n o1 o2 o3 o4 : Nat) (i : Int32) : Option (St × Nat) :=
  cki (i + 1) L <|
  cki (i + 2) L <|
  Option.bind (f_L_setQuota F S0 o1 (xs (Int32.toNatClampNeg (i + 1))) (xs (Int32.toNatClampNeg (i + 2))) o3) fun z3 => lt z3.1 fun r5 => lt z3.2 fun S4 =>
  cki (i + 1) L <|
  cki (i + 2) L <|
  Option.bind (f_X11_setQuota F S4 o2 (xs (Int32.toNatClampNeg (i + 1))) (xs (Int32.toNatClampNeg (i + 2)))) fun z9 => lt z9.1 fun r11 => lt z9.2 fun S10 =>
  Option.bind (f_X11_thrown F S10 o2) fun z13 => lt z13.1 fun r15 => lt z13.2 fun S14 =>
  if r15 = r5 then
  (if ¬ r5 = 0 then
  (some (S14, n))
  else
  (cki 0 (ln S14 o3) <|
  if (lg_cmp (al S14 o3 (Int32.toNatClampNeg 0)) r11.toInt64) = 0 then
  (some (S14, n))
  else
  (none)))
  else
  (none)
def f_law46 (F : Nat) (xs : Nat → Int32) (L : Nat) (S0 : St) (n o1 o2 o3 o4 : Nat) (i : Int32) : Option (St × Nat) :=
  cki (i + 1) L <|
  Option.bind (f_L_advance F S0 o1 (xs (Int32.toNatClampNeg (i + 1))) o3) fun z2 => lt z2.1 fun r4 => lt z2.2 fun S3 =>
  cki (i + 1) L <|
  Option.bind (f_X11_advance F S3 o2 (xs (Int32.toNatClampNeg (i + 1)))) fun z7 => lt z7.1 fun r9 => lt z7.2 fun S8 =>
  Option.bind (f_X11_thrown F S8 o2) fun z11 => lt z11.1 fun r13 => lt z11.2 fun S12 =>
  if r13 = r4 then
  (if ¬ r4 = 0 then
  (some (S12, n))
  else
  (cki 0 (ln S12 o3) <|
  if (lg_cmp (al S12 o3 (Int32.toNatClampNeg 0)) r9.toInt64) = 0 then
  (some (S12, n))
  else
  (none)))
  else
  (none)
def f_law47 (F : Nat) (xs : Nat → Int32) (L : Nat) (S0 : St) (n o1 o2 o3 o4 : Nat) (i : Int32) : Option (St × Nat) :=
  Option.bind (f_X10_nextRound F S0 o1) fun z1 => lt z1.1 fun r3 => lt z1.2 fun S2 =>
  Option.bind (f_X11_nextRound F S2 o2) fun z5 => lt z5.1 fun r7 => lt z5.2 fun S6 =>
  if r3 = r7 then
  (some (S6, n))
  else
  (none)
def f_law48 (F : Nat) (xs : Nat → Int32) (L : Nat) (S0 : St) (n o1 o2 o3 o4 : Nat) (i : Int32) : Option (St × Nat) :=
  cki (i + 1) L <|
  Option.bind (f_L_removedOn F S0 o1 (xs (Int32.toNatClampNeg (i + 1))) o3) fun z2 => lt z2.1 fun r4 => lt z2.2 fun S3 =>
  cki (i + 1) L <|
  Option.bind (f_X11_removedOn F S3 o2 (xs (Int32.toNatClampNeg (i + 1)))) fun z7 => lt z7.1 fun r9 => lt z7.2 fun S8 =>
  Option.bind (f_X11_thrown F S8 o2) fun z11 => lt z11.1 fun r13 => lt z11.2 fun S12 =>
  if r13 = r4 then
  (if ¬ r4 = 0 then
  (some (S12, n))
  else
  (cki 0 (ln S12 o3) <|
  if (lg_cmp (al S12 o3 (Int32.toNatClampNeg 0)) r9.toInt64) = 0 then
  (some (S12, n))
  else
  (none)))
  else
  (none)
def f_law49 (F : Nat) (xs : Nat → Int32) (L : Nat) (S0 : St) (n o1 o2 o3 o4 : Nat) (i : Int32) : Option (St × Nat) :=
  Option.bind (f_X10_emptyOn F S0 o1) fun z1 => lt z1.1 fun r3 => lt z1.2 fun S2 =>
  Option.bind (f_X11_emptyOn F S2 o2) fun z5 => lt z5.1 fun r7 => lt z5.2 fun S6 =>
  if r3 = r7 then
  (some (S6, n))
  else
  (none)
def f_law50 (F : Nat) (xs : Nat → Int32) (L : Nat) (S0 : St) (n o1 o2 o3 o4 : Nat) (i : Int32) : Option (St × Nat) :=
  cki (i + 1) L <|
  Option.bind (f_L_bytesAfter F S0 o1 (xs (Int32.toNatClampNeg (i + 1))) o3) fun z2 => lt z2.1 fun r4 => lt z2.2 fun S3 =>
  cki (i + 1) L <|
  Option.bind (f_X11_bytesAfter F S3 o2 (xs (Int32.toNatClampNeg (i + 1)))) fun z7 => lt z7.1 fun r9 => lt z7.2 fun S8 =>
  Option.bind (f_X11_thrown F S8 o2) fun z11 => lt z11.1 fun r13 => lt z11.2 fun S12 =>
  if r13 = r4 then
  (if ¬ r4 = 0 then
  (some (S12, n))
  else
  (cki 0 (ln S12 o3) <|
  if (lg_cmp (al S12 o3 (Int32.toNatClampNeg 0)) r9.toInt64) = 0 then
  (some (S12, n))
  else
  (none)))
  else
  (none)
def f_law51 (F : Nat) (xs : Nat → Int32) (L : Nat) (S0 : St) (n o1 o2 o3 o4 : Nat) (i : Int32) : Option (St × Nat) :=
  cki (i + 1) L <|
  cki (i + 2) L <|
  Option.bind (f_L_goneAfter F S0 o1 (xs (Int32.toNatClampNeg (i + 1))) (xs (Int32.toNatClampNeg (i + 2))) o3) fun z3 => lt z3.1 fun r5 => lt z3.2 fun S4 =>
  cki (i + 1) L <|
  cki (i + 2) L <|
  Option.bind (f_X11_goneAfter F S4 o2 (xs (Int32.toNatClampNeg (i + 1))) (xs (Int32.toNatClampNeg (i + 2)))) fun z9 => lt z9.1 fun r11 => lt z9.2 fun S10 =>
  Option.bind (f_X11_thrown F S10 o2) fun z13 => lt z13.1 fun r15 => lt z13.2 fun S14 =>
  if r15 = r5 then
  (if ¬ r5 = 0 then
  (some (S14, n))
  else
  (cki 0 (ln S14 o3) <|
  if (lg_cmp (al S14 o3 (Int32.toNatClampNeg 0)) r11.toInt64) = 0 then
  (some (S14, n))
  else
  (none)))
  else
  (none)
def f_law52 (F : Nat) (xs : Nat → Int32) (L : Nat) (S0 : St) (n o1 o2 o3 o4 : Nat) (i : Int32) : Option (St × Nat) :=
  Option.bind (f_X10_eventCount F S0 o1) fun z1 => lt z1.1 fun r3 => lt z1.2 fun S2 =>
  Option.bind (f_X11_eventCount F S2 o2) fun z5 => lt z5.1 fun r7 => lt z5.2 fun S6 =>
  if r3 = r7 then
  (some (S6, n))
  else
  (none)
def f_law53 (F : Nat) (xs : Nat → Int32) (L : Nat) (S0 : St) (n o1 o2 o3 o4 : Nat) (i : Int32) : Option (St × Nat) :=
  cki (i + 1) L <|
  cki (i + 2) L <|
  Option.bind (f_L_event F S0 o1 (xs (Int32.toNatClampNeg (i + 1))) (xs (Int32.toNatClampNeg (i + 2))) o3) fun z3 => lt z3.1 fun r5 => lt z3.2 fun S4 =>
  cki (i + 1) L <|
  cki (i + 2) L <|
  Option.bind (f_X11_event F S4 o2 (xs (Int32.toNatClampNeg (i + 1))) (xs (Int32.toNatClampNeg (i + 2)))) fun z9 => lt z9.1 fun r11 => lt z9.2 fun S10 =>
  Option.bind (f_X11_thrown F S10 o2) fun z13 => lt z13.1 fun r15 => lt z13.2 fun S14 =>
  if r15 = r5 then
  (if ¬ r5 = 0 then
  (some (S14, n))
  else
  (cki 0 (ln S14 o3) <|
  if (lg_cmp (al S14 o3 (Int32.toNatClampNeg 0)) r11.toInt64) = 0 then
  (some (S14, n))
  else
  (none)))
  else
  (none)
def f_law54 (F : Nat) (xs : Nat → Int32) (L : Nat) (S0 : St) (n o1 o2 o3 o4 : Nat) (i : Int32) : Option (St × Nat) :=
  cki (i + 1) L <|
  Option.bind (f_L_eventsOf F S0 o1 (xs (Int32.toNatClampNeg (i + 1))) o3) fun z2 => lt z2.1 fun r4 => lt z2.2 fun S3 =>
  cki (i + 1) L <|
  Option.bind (f_X11_eventsOf F S3 o2 (xs (Int32.toNatClampNeg (i + 1)))) fun z7 => lt z7.1 fun r9 => lt z7.2 fun S8 =>
  Option.bind (f_X11_thrown F S8 o2) fun z11 => lt z11.1 fun r13 => lt z11.2 fun S12 =>
  if r13 = r4 then
  (if ¬ r4 = 0 then
  (some (S12, n))
  else
  (cki 0 (ln S12 o3) <|
  if (lg_cmp (al S12 o3 (Int32.toNatClampNeg 0)) r9.toInt64) = 0 then
  (some (S12, n))
  else
  (none)))
  else
  (none)
def f_law55 (F : Nat) (xs : Nat → Int32) (L : Nat) (S0 : St) (n o1 o2 o3 o4 : Nat) (i : Int32) : Option (St × Nat) :=
  Option.bind (f_L_undo F S0 o1 o3) fun z1 => lt z1.1 fun r3 => lt z1.2 fun S2 =>
  Option.bind (f_X11_undo F S2 o2) fun z5 => lt z5.1 fun r7 => lt z5.2 fun S6 =>
  Option.bind (f_X11_thrown F S6 o2) fun z9 => lt z9.1 fun r11 => lt z9.2 fun S10 =>
  if r11 = r3 then
  (if ¬ r3 = 0 then
  (some (S10, n))
  else
  (cki 0 (ln S10 o3) <|
  if (lg_cmp (al S10 o3 (Int32.toNatClampNeg 0)) r7.toInt64) = 0 then
  (some (S10, n))
  else
  (none)))
  else
  (none)
def f_law56 (F : Nat) (xs : Nat → Int32) (L : Nat) (S0 : St) (n o1 o2 o3 o4 : Nat) (i : Int32) : Option (St × Nat) :=
  Option.bind (f_X10_undoCount F S0 o1) fun z1 => lt z1.1 fun r3 => lt z1.2 fun S2 =>
  Option.bind (f_X11_undoCount F S2 o2) fun z5 => lt z5.1 fun r7 => lt z5.2 fun S6 =>
  if r3 = r7 then
  (some (S6, n))
  else
  (none)
def f_law57 (F : Nat) (xs : Nat → Int32) (L : Nat) (S0 : St) (n o1 o2 o3 o4 : Nat) (i : Int32) : Option (St × Nat) :=
  cki (i + 1) L <|
  Option.bind (f_L_writeMailbox F S0 o1 (xs (Int32.toNatClampNeg (i + 1))) o3) fun z2 => lt z2.1 fun r4 => lt z2.2 fun S3 =>
  cki (i + 1) L <|
  Option.bind (f_X11_writeMailbox F S3 o2 (xs (Int32.toNatClampNeg (i + 1)))) fun z7 => lt z7.1 fun r9 => lt z7.2 fun S8 =>
  Option.bind (f_X11_thrown F S8 o2) fun z11 => lt z11.1 fun r13 => lt z11.2 fun S12 =>
  if r13 = r4 then
  (if ¬ r4 = 0 then
  (some (S12, n))
  else
  (cki 0 (ln S12 o3) <|
  if (lg_cmp (al S12 o3 (Int32.toNatClampNeg 0)) r9.toInt64) = 0 then
  (some (S12, n))
  else
  (none)))
  else
  (none)
def f_law58 (F : Nat) (xs : Nat → Int32) (L : Nat) (S0 : St) (n o1 o2 o3 o4 : Nat) (i : Int32) : Option (St × Nat) :=
  cki (i + 1) L <|
  Option.bind (f_L_outputByte F S0 o1 (xs (Int32.toNatClampNeg (i + 1))) o3) fun z2 => lt z2.1 fun r4 => lt z2.2 fun S3 =>
  cki (i + 1) L <|
  Option.bind (f_X11_outputByte F S3 o2 (xs (Int32.toNatClampNeg (i + 1)))) fun z7 => lt z7.1 fun r9 => lt z7.2 fun S8 =>
  Option.bind (f_X11_thrown F S8 o2) fun z11 => lt z11.1 fun r13 => lt z11.2 fun S12 =>
  if r13 = r4 then
  (if ¬ r4 = 0 then
  (some (S12, n))
  else
  (cki 0 (ln S12 o3) <|
  if (lg_cmp (al S12 o3 (Int32.toNatClampNeg 0)) r9.toInt64) = 0 then
  (some (S12, n))
  else
  (none)))
  else
  (none)
def f_step (F : Nat) (xs : Nat → Int32) (L : Nat) (S0 : St) (n o1 o2 o3 o4 : Nat) (i v : Int32) : Option (St × Nat) :=
  if v.toInt < 0 ∨ 58 < v.toInt then some (S0, n)
  else if v = 0 then f_law0 F xs L S0 n o1 o2 o3 o4 i
  else if v = 1 then f_law1 F xs L S0 n o1 o2 o3 o4 i
  else if v = 2 then f_law2 F xs L S0 n o1 o2 o3 o4 i
  else if v = 3 then f_law3 F xs L S0 n o1 o2 o3 o4 i
  else if v = 4 then f_law4 F xs L S0 n o1 o2 o3 o4 i
  else if v = 5 then f_law5 F xs L S0 n o1 o2 o3 o4 i
  else if v = 6 then f_law6 F xs L S0 n o1 o2 o3 o4 i
  else if v = 7 then f_law7 F xs L S0 n o1 o2 o3 o4 i
  else if v = 8 then f_law8 F xs L S0 n o1 o2 o3 o4 i
  else if v = 9 then f_law9 F xs L S0 n o1 o2 o3 o4 i
  else if v = 10 then f_law10 F xs L S0 n o1 o2 o3 o4 i
  else if v = 11 then f_law11 F xs L S0 n o1 o2 o3 o4 i
  else if v = 12 then f_law12 F xs L S0 n o1 o2 o3 o4 i
  else if v = 13 then f_law13 F xs L S0 n o1 o2 o3 o4 i
  else if v = 14 then f_law14 F xs L S0 n o1 o2 o3 o4 i
  else if v = 15 then f_law15 F xs L S0 n o1 o2 o3 o4 i
  else if v = 16 then f_law16 F xs L S0 n o1 o2 o3 o4 i
  else if v = 17 then f_law17 F xs L S0 n o1 o2 o3 o4 i
  else if v = 18 then f_law18 F xs L S0 n o1 o2 o3 o4 i
  else if v = 19 then f_law19 F xs L S0 n o1 o2 o3 o4 i
  else if v = 20 then f_law20 F xs L S0 n o1 o2 o3 o4 i
  else if v = 21 then f_law21 F xs L S0 n o1 o2 o3 o4 i
  else if v = 22 then f_law22 F xs L S0 n o1 o2 o3 o4 i
  else if v = 23 then f_law23 F xs L S0 n o1 o2 o3 o4 i
  else if v = 24 then f_law24 F xs L S0 n o1 o2 o3 o4 i
  else if v = 25 then f_law25 F xs L S0 n o1 o2 o3 o4 i
  else if v = 26 then f_law26 F xs L S0 n o1 o2 o3 o4 i
  else if v = 27 then f_law27 F xs L S0 n o1 o2 o3 o4 i
  else if v = 28 then f_law28 F xs L S0 n o1 o2 o3 o4 i
  else if v = 29 then f_law29 F xs L S0 n o1 o2 o3 o4 i
  else if v = 30 then f_law30 F xs L S0 n o1 o2 o3 o4 i
  else if v = 31 then f_law31 F xs L S0 n o1 o2 o3 o4 i
  else if v = 32 then f_law32 F xs L S0 n o1 o2 o3 o4 i
  else if v = 33 then f_law33 F xs L S0 n o1 o2 o3 o4 i
  else if v = 34 then f_law34 F xs L S0 n o1 o2 o3 o4 i
  else if v = 35 then f_law35 F xs L S0 n o1 o2 o3 o4 i
  else if v = 36 then f_law36 F xs L S0 n o1 o2 o3 o4 i
  else if v = 37 then f_law37 F xs L S0 n o1 o2 o3 o4 i
  else if v = 38 then f_law38 F xs L S0 n o1 o2 o3 o4 i
  else if v = 39 then f_law39 F xs L S0 n o1 o2 o3 o4 i
  else if v = 40 then f_law40 F xs L S0 n o1 o2 o3 o4 i
  else if v = 41 then f_law41 F xs L S0 n o1 o2 o3 o4 i
  else if v = 42 then f_law42 F xs L S0 n o1 o2 o3 o4 i
  else if v = 43 then f_law43 F xs L S0 n o1 o2 o3 o4 i
  else if v = 44 then f_law44 F xs L S0 n o1 o2 o3 o4 i
  else if v = 45 then f_law45 F xs L S0 n o1 o2 o3 o4 i
  else if v = 46 then f_law46 F xs L S0 n o1 o2 o3 o4 i
  else if v = 47 then f_law47 F xs L S0 n o1 o2 o3 o4 i
  else if v = 48 then f_law48 F xs L S0 n o1 o2 o3 o4 i
  else if v = 49 then f_law49 F xs L S0 n o1 o2 o3 o4 i
  else if v = 50 then f_law50 F xs L S0 n o1 o2 o3 o4 i
  else if v = 51 then f_law51 F xs L S0 n o1 o2 o3 o4 i
  else if v = 52 then f_law52 F xs L S0 n o1 o2 o3 o4 i
  else if v = 53 then f_law53 F xs L S0 n o1 o2 o3 o4 i
  else if v = 54 then f_law54 F xs L S0 n o1 o2 o3 o4 i
  else if v = 55 then f_law55 F xs L S0 n o1 o2 o3 o4 i
  else if v = 56 then f_law56 F xs L S0 n o1 o2 o3 o4 i
  else if v = 57 then f_law57 F xs L S0 n o1 o2 o3 o4 i
  else if v = 58 then f_law58 F xs L S0 n o1 o2 o3 o4 i
  else none
def SE : St := (fun _ _ => 0, fun _ _ => none, fun _ _ => 0, fun _ _ => 0, fun _ _ => 0, fun _ _ => none, fun _ => 0)
def f_loop (F : Nat) (xs : Nat → Int32) (L o1 o2 o3 o4 : Nat) : Nat → Int32 → St → Nat → Option Unit
  | 0, _, _, _ => none
  | fu + 1, i, S0, n =>
    if Int32.ofNat L - 6 < i then some ()
    else cki i L <| Option.bind (f_step F xs L S0 n o1 o2 o3 o4 i (xs (Int32.toNatClampNeg i) &&& 63)) fun z => f_loop F xs L o1 o2 o3 o4 fu (i + 6) z.1 z.2
def f_whole (F : Nat) (xs : Nat → Int32) (L : Nat) : Option Unit := Option.bind (f_lawS F xs L SE 0) fun z => f_loop F xs L z.2.2.1 z.2.2.2.1 z.2.2.2.2.1 z.2.2.2.2.2 513 0 z.1 z.2.1
