/-! rows for a program's own steps: literals, loops -/
theorem aL2 (a : Nat) : nI a + 2 = nI (a + 2) := nI_add a 2
theorem La2 (a : Nat) : 2 + nI a = nI (2 + a) := nI_add 2 a
theorem mL2 (a : Nat) : 2 * nI a = nI (2 * a) := nI_mul 2 a
theorem cL2 {β : Type} {n : Nat} {x : Option β} (h : 2 < n) (hn : n < 2 ^ 31) : cki 2 n x = x := cki_nI (k := 2) h hn
theorem kL2 : Int32.toNatClampNeg 2 = 2 := rfl
theorem aL3 (a : Nat) : nI a + 3 = nI (a + 3) := nI_add a 3
theorem La3 (a : Nat) : 3 + nI a = nI (3 + a) := nI_add 3 a
theorem mL3 (a : Nat) : 3 * nI a = nI (3 * a) := nI_mul 3 a
theorem cL3 {β : Type} {n : Nat} {x : Option β} (h : 3 < n) (hn : n < 2 ^ 31) : cki 3 n x = x := cki_nI (k := 3) h hn
theorem kL3 : Int32.toNatClampNeg 3 = 3 := rfl
theorem aL4 (a : Nat) : nI a + 4 = nI (a + 4) := nI_add a 4
theorem La4 (a : Nat) : 4 + nI a = nI (4 + a) := nI_add 4 a
theorem mL4 (a : Nat) : 4 * nI a = nI (4 * a) := nI_mul 4 a
theorem cL4 {β : Type} {n : Nat} {x : Option β} (h : 4 < n) (hn : n < 2 ^ 31) : cki 4 n x = x := cki_nI (k := 4) h hn
theorem kL4 : Int32.toNatClampNeg 4 = 4 := rfl
theorem aL5 (a : Nat) : nI a + 5 = nI (a + 5) := nI_add a 5
theorem La5 (a : Nat) : 5 + nI a = nI (5 + a) := nI_add 5 a
theorem mL5 (a : Nat) : 5 * nI a = nI (5 * a) := nI_mul 5 a
theorem cL5 {β : Type} {n : Nat} {x : Option β} (h : 5 < n) (hn : n < 2 ^ 31) : cki 5 n x = x := cki_nI (k := 5) h hn
theorem kL5 : Int32.toNatClampNeg 5 = 5 := rfl
theorem aL6 (a : Nat) : nI a + 6 = nI (a + 6) := nI_add a 6
theorem La6 (a : Nat) : 6 + nI a = nI (6 + a) := nI_add 6 a
theorem mL6 (a : Nat) : 6 * nI a = nI (6 * a) := nI_mul 6 a
theorem cL6 {β : Type} {n : Nat} {x : Option β} (h : 6 < n) (hn : n < 2 ^ 31) : cki 6 n x = x := cki_nI (k := 6) h hn
theorem kL6 : Int32.toNatClampNeg 6 = 6 := rfl
theorem aL7 (a : Nat) : nI a + 7 = nI (a + 7) := nI_add a 7
theorem La7 (a : Nat) : 7 + nI a = nI (7 + a) := nI_add 7 a
theorem mL7 (a : Nat) : 7 * nI a = nI (7 * a) := nI_mul 7 a
theorem cL7 {β : Type} {n : Nat} {x : Option β} (h : 7 < n) (hn : n < 2 ^ 31) : cki 7 n x = x := cki_nI (k := 7) h hn
theorem kL7 : Int32.toNatClampNeg 7 = 7 := rfl
theorem aL8 (a : Nat) : nI a + 8 = nI (a + 8) := nI_add a 8
theorem La8 (a : Nat) : 8 + nI a = nI (8 + a) := nI_add 8 a
theorem mL8 (a : Nat) : 8 * nI a = nI (8 * a) := nI_mul 8 a
theorem cL8 {β : Type} {n : Nat} {x : Option β} (h : 8 < n) (hn : n < 2 ^ 31) : cki 8 n x = x := cki_nI (k := 8) h hn
theorem kL8 : Int32.toNatClampNeg 8 = 8 := rfl
theorem aL9 (a : Nat) : nI a + 9 = nI (a + 9) := nI_add a 9
theorem La9 (a : Nat) : 9 + nI a = nI (9 + a) := nI_add 9 a
theorem mL9 (a : Nat) : 9 * nI a = nI (9 * a) := nI_mul 9 a
theorem cL9 {β : Type} {n : Nat} {x : Option β} (h : 9 < n) (hn : n < 2 ^ 31) : cki 9 n x = x := cki_nI (k := 9) h hn
theorem kL9 : Int32.toNatClampNeg 9 = 9 := rfl
theorem aL10 (a : Nat) : nI a + 10 = nI (a + 10) := nI_add a 10
theorem La10 (a : Nat) : 10 + nI a = nI (10 + a) := nI_add 10 a
theorem mL10 (a : Nat) : 10 * nI a = nI (10 * a) := nI_mul 10 a
theorem cL10 {β : Type} {n : Nat} {x : Option β} (h : 10 < n) (hn : n < 2 ^ 31) : cki 10 n x = x := cki_nI (k := 10) h hn
theorem kL10 : Int32.toNatClampNeg 10 = 10 := rfl
theorem aL11 (a : Nat) : nI a + 11 = nI (a + 11) := nI_add a 11
theorem La11 (a : Nat) : 11 + nI a = nI (11 + a) := nI_add 11 a
theorem mL11 (a : Nat) : 11 * nI a = nI (11 * a) := nI_mul 11 a
theorem cL11 {β : Type} {n : Nat} {x : Option β} (h : 11 < n) (hn : n < 2 ^ 31) : cki 11 n x = x := cki_nI (k := 11) h hn
theorem kL11 : Int32.toNatClampNeg 11 = 11 := rfl
theorem aL12 (a : Nat) : nI a + 12 = nI (a + 12) := nI_add a 12
theorem La12 (a : Nat) : 12 + nI a = nI (12 + a) := nI_add 12 a
theorem mL12 (a : Nat) : 12 * nI a = nI (12 * a) := nI_mul 12 a
theorem cL12 {β : Type} {n : Nat} {x : Option β} (h : 12 < n) (hn : n < 2 ^ 31) : cki 12 n x = x := cki_nI (k := 12) h hn
theorem kL12 : Int32.toNatClampNeg 12 = 12 := rfl
theorem aL13 (a : Nat) : nI a + 13 = nI (a + 13) := nI_add a 13
theorem La13 (a : Nat) : 13 + nI a = nI (13 + a) := nI_add 13 a
theorem mL13 (a : Nat) : 13 * nI a = nI (13 * a) := nI_mul 13 a
theorem cL13 {β : Type} {n : Nat} {x : Option β} (h : 13 < n) (hn : n < 2 ^ 31) : cki 13 n x = x := cki_nI (k := 13) h hn
theorem kL13 : Int32.toNatClampNeg 13 = 13 := rfl
theorem aL14 (a : Nat) : nI a + 14 = nI (a + 14) := nI_add a 14
theorem La14 (a : Nat) : 14 + nI a = nI (14 + a) := nI_add 14 a
theorem mL14 (a : Nat) : 14 * nI a = nI (14 * a) := nI_mul 14 a
theorem cL14 {β : Type} {n : Nat} {x : Option β} (h : 14 < n) (hn : n < 2 ^ 31) : cki 14 n x = x := cki_nI (k := 14) h hn
theorem kL14 : Int32.toNatClampNeg 14 = 14 := rfl
theorem aL15 (a : Nat) : nI a + 15 = nI (a + 15) := nI_add a 15
theorem La15 (a : Nat) : 15 + nI a = nI (15 + a) := nI_add 15 a
theorem mL15 (a : Nat) : 15 * nI a = nI (15 * a) := nI_mul 15 a
theorem cL15 {β : Type} {n : Nat} {x : Option β} (h : 15 < n) (hn : n < 2 ^ 31) : cki 15 n x = x := cki_nI (k := 15) h hn
theorem kL15 : Int32.toNatClampNeg 15 = 15 := rfl
theorem aL16 (a : Nat) : nI a + 16 = nI (a + 16) := nI_add a 16
theorem La16 (a : Nat) : 16 + nI a = nI (16 + a) := nI_add 16 a
theorem mL16 (a : Nat) : 16 * nI a = nI (16 * a) := nI_mul 16 a
theorem cL16 {β : Type} {n : Nat} {x : Option β} (h : 16 < n) (hn : n < 2 ^ 31) : cki 16 n x = x := cki_nI (k := 16) h hn
theorem kL16 : Int32.toNatClampNeg 16 = 16 := rfl
theorem aL20 (a : Nat) : nI a + 20 = nI (a + 20) := nI_add a 20
theorem La20 (a : Nat) : 20 + nI a = nI (20 + a) := nI_add 20 a
theorem mL20 (a : Nat) : 20 * nI a = nI (20 * a) := nI_mul 20 a
theorem cL20 {β : Type} {n : Nat} {x : Option β} (h : 20 < n) (hn : n < 2 ^ 31) : cki 20 n x = x := cki_nI (k := 20) h hn
theorem kL20 : Int32.toNatClampNeg 20 = 20 := rfl
theorem aL21 (a : Nat) : nI a + 21 = nI (a + 21) := nI_add a 21
theorem La21 (a : Nat) : 21 + nI a = nI (21 + a) := nI_add 21 a
theorem mL21 (a : Nat) : 21 * nI a = nI (21 * a) := nI_mul 21 a
theorem cL21 {β : Type} {n : Nat} {x : Option β} (h : 21 < n) (hn : n < 2 ^ 31) : cki 21 n x = x := cki_nI (k := 21) h hn
theorem kL21 : Int32.toNatClampNeg 21 = 21 := rfl
theorem aL24 (a : Nat) : nI a + 24 = nI (a + 24) := nI_add a 24
theorem La24 (a : Nat) : 24 + nI a = nI (24 + a) := nI_add 24 a
theorem mL24 (a : Nat) : 24 * nI a = nI (24 * a) := nI_mul 24 a
theorem cL24 {β : Type} {n : Nat} {x : Option β} (h : 24 < n) (hn : n < 2 ^ 31) : cki 24 n x = x := cki_nI (k := 24) h hn
theorem kL24 : Int32.toNatClampNeg 24 = 24 := rfl
theorem aL27 (a : Nat) : nI a + 27 = nI (a + 27) := nI_add a 27
theorem La27 (a : Nat) : 27 + nI a = nI (27 + a) := nI_add 27 a
theorem mL27 (a : Nat) : 27 * nI a = nI (27 * a) := nI_mul 27 a
theorem cL27 {β : Type} {n : Nat} {x : Option β} (h : 27 < n) (hn : n < 2 ^ 31) : cki 27 n x = x := cki_nI (k := 27) h hn
theorem kL27 : Int32.toNatClampNeg 27 = 27 := rfl
theorem aL30 (a : Nat) : nI a + 30 = nI (a + 30) := nI_add a 30
theorem La30 (a : Nat) : 30 + nI a = nI (30 + a) := nI_add 30 a
theorem mL30 (a : Nat) : 30 * nI a = nI (30 * a) := nI_mul 30 a
theorem cL30 {β : Type} {n : Nat} {x : Option β} (h : 30 < n) (hn : n < 2 ^ 31) : cki 30 n x = x := cki_nI (k := 30) h hn
theorem kL30 : Int32.toNatClampNeg 30 = 30 := rfl
theorem aL31 (a : Nat) : nI a + 31 = nI (a + 31) := nI_add a 31
theorem La31 (a : Nat) : 31 + nI a = nI (31 + a) := nI_add 31 a
theorem mL31 (a : Nat) : 31 * nI a = nI (31 * a) := nI_mul 31 a
theorem cL31 {β : Type} {n : Nat} {x : Option β} (h : 31 < n) (hn : n < 2 ^ 31) : cki 31 n x = x := cki_nI (k := 31) h hn
theorem kL31 : Int32.toNatClampNeg 31 = 31 := rfl
theorem aL32 (a : Nat) : nI a + 32 = nI (a + 32) := nI_add a 32
theorem La32 (a : Nat) : 32 + nI a = nI (32 + a) := nI_add 32 a
theorem mL32 (a : Nat) : 32 * nI a = nI (32 * a) := nI_mul 32 a
theorem cL32 {β : Type} {n : Nat} {x : Option β} (h : 32 < n) (hn : n < 2 ^ 31) : cki 32 n x = x := cki_nI (k := 32) h hn
theorem kL32 : Int32.toNatClampNeg 32 = 32 := rfl
theorem aL48 (a : Nat) : nI a + 48 = nI (a + 48) := nI_add a 48
theorem La48 (a : Nat) : 48 + nI a = nI (48 + a) := nI_add 48 a
theorem mL48 (a : Nat) : 48 * nI a = nI (48 * a) := nI_mul 48 a
theorem cL48 {β : Type} {n : Nat} {x : Option β} (h : 48 < n) (hn : n < 2 ^ 31) : cki 48 n x = x := cki_nI (k := 48) h hn
theorem kL48 : Int32.toNatClampNeg 48 = 48 := rfl
theorem aL60 (a : Nat) : nI a + 60 = nI (a + 60) := nI_add a 60
theorem La60 (a : Nat) : 60 + nI a = nI (60 + a) := nI_add 60 a
theorem mL60 (a : Nat) : 60 * nI a = nI (60 * a) := nI_mul 60 a
theorem cL60 {β : Type} {n : Nat} {x : Option β} (h : 60 < n) (hn : n < 2 ^ 31) : cki 60 n x = x := cki_nI (k := 60) h hn
theorem kL60 : Int32.toNatClampNeg 60 = 60 := rfl
theorem aL83 (a : Nat) : nI a + 83 = nI (a + 83) := nI_add a 83
theorem La83 (a : Nat) : 83 + nI a = nI (83 + a) := nI_add 83 a
theorem mL83 (a : Nat) : 83 * nI a = nI (83 * a) := nI_mul 83 a
theorem cL83 {β : Type} {n : Nat} {x : Option β} (h : 83 < n) (hn : n < 2 ^ 31) : cki 83 n x = x := cki_nI (k := 83) h hn
theorem kL83 : Int32.toNatClampNeg 83 = 83 := rfl
theorem aL97 (a : Nat) : nI a + 97 = nI (a + 97) := nI_add a 97
theorem La97 (a : Nat) : 97 + nI a = nI (97 + a) := nI_add 97 a
theorem mL97 (a : Nat) : 97 * nI a = nI (97 * a) := nI_mul 97 a
theorem cL97 {β : Type} {n : Nat} {x : Option β} (h : 97 < n) (hn : n < 2 ^ 31) : cki 97 n x = x := cki_nI (k := 97) h hn
theorem kL97 : Int32.toNatClampNeg 97 = 97 := rfl
theorem aL99 (a : Nat) : nI a + 99 = nI (a + 99) := nI_add a 99
theorem La99 (a : Nat) : 99 + nI a = nI (99 + a) := nI_add 99 a
theorem mL99 (a : Nat) : 99 * nI a = nI (99 * a) := nI_mul 99 a
theorem cL99 {β : Type} {n : Nat} {x : Option β} (h : 99 < n) (hn : n < 2 ^ 31) : cki 99 n x = x := cki_nI (k := 99) h hn
theorem kL99 : Int32.toNatClampNeg 99 = 99 := rfl
theorem aL120 (a : Nat) : nI a + 120 = nI (a + 120) := nI_add a 120
theorem La120 (a : Nat) : 120 + nI a = nI (120 + a) := nI_add 120 a
theorem mL120 (a : Nat) : 120 * nI a = nI (120 * a) := nI_mul 120 a
theorem cL120 {β : Type} {n : Nat} {x : Option β} (h : 120 < n) (hn : n < 2 ^ 31) : cki 120 n x = x := cki_nI (k := 120) h hn
theorem kL120 : Int32.toNatClampNeg 120 = 120 := rfl
theorem aL122 (a : Nat) : nI a + 122 = nI (a + 122) := nI_add a 122
theorem La122 (a : Nat) : 122 + nI a = nI (122 + a) := nI_add 122 a
theorem mL122 (a : Nat) : 122 * nI a = nI (122 * a) := nI_mul 122 a
theorem cL122 {β : Type} {n : Nat} {x : Option β} (h : 122 < n) (hn : n < 2 ^ 31) : cki 122 n x = x := cki_nI (k := 122) h hn
theorem kL122 : Int32.toNatClampNeg 122 = 122 := rfl
theorem aL124 (a : Nat) : nI a + 124 = nI (a + 124) := nI_add a 124
theorem La124 (a : Nat) : 124 + nI a = nI (124 + a) := nI_add 124 a
theorem mL124 (a : Nat) : 124 * nI a = nI (124 * a) := nI_mul 124 a
theorem cL124 {β : Type} {n : Nat} {x : Option β} (h : 124 < n) (hn : n < 2 ^ 31) : cki 124 n x = x := cki_nI (k := 124) h hn
theorem kL124 : Int32.toNatClampNeg 124 = 124 := rfl
theorem aL163 (a : Nat) : nI a + 163 = nI (a + 163) := nI_add a 163
theorem La163 (a : Nat) : 163 + nI a = nI (163 + a) := nI_add 163 a
theorem mL163 (a : Nat) : 163 * nI a = nI (163 * a) := nI_mul 163 a
theorem cL163 {β : Type} {n : Nat} {x : Option β} (h : 163 < n) (hn : n < 2 ^ 31) : cki 163 n x = x := cki_nI (k := 163) h hn
theorem kL163 : Int32.toNatClampNeg 163 = 163 := rfl
theorem aL177 (a : Nat) : nI a + 177 = nI (a + 177) := nI_add a 177
theorem La177 (a : Nat) : 177 + nI a = nI (177 + a) := nI_add 177 a
theorem mL177 (a : Nat) : 177 * nI a = nI (177 * a) := nI_mul 177 a
theorem cL177 {β : Type} {n : Nat} {x : Option β} (h : 177 < n) (hn : n < 2 ^ 31) : cki 177 n x = x := cki_nI (k := 177) h hn
theorem kL177 : Int32.toNatClampNeg 177 = 177 := rfl
theorem aL200 (a : Nat) : nI a + 200 = nI (a + 200) := nI_add a 200
theorem La200 (a : Nat) : 200 + nI a = nI (200 + a) := nI_add 200 a
theorem mL200 (a : Nat) : 200 * nI a = nI (200 * a) := nI_mul 200 a
theorem cL200 {β : Type} {n : Nat} {x : Option β} (h : 200 < n) (hn : n < 2 ^ 31) : cki 200 n x = x := cki_nI (k := 200) h hn
theorem kL200 : Int32.toNatClampNeg 200 = 200 := rfl
theorem aL205 (a : Nat) : nI a + 205 = nI (a + 205) := nI_add a 205
theorem La205 (a : Nat) : 205 + nI a = nI (205 + a) := nI_add 205 a
theorem mL205 (a : Nat) : 205 * nI a = nI (205 * a) := nI_mul 205 a
theorem cL205 {β : Type} {n : Nat} {x : Option β} (h : 205 < n) (hn : n < 2 ^ 31) : cki 205 n x = x := cki_nI (k := 205) h hn
theorem kL205 : Int32.toNatClampNeg 205 = 205 := rfl
theorem aL255 (a : Nat) : nI a + 255 = nI (a + 255) := nI_add a 255
theorem La255 (a : Nat) : 255 + nI a = nI (255 + a) := nI_add 255 a
theorem mL255 (a : Nat) : 255 * nI a = nI (255 * a) := nI_mul 255 a
theorem cL255 {β : Type} {n : Nat} {x : Option β} (h : 255 < n) (hn : n < 2 ^ 31) : cki 255 n x = x := cki_nI (k := 255) h hn
theorem kL255 : Int32.toNatClampNeg 255 = 255 := rfl
theorem aL331 (a : Nat) : nI a + 331 = nI (a + 331) := nI_add a 331
theorem La331 (a : Nat) : 331 + nI a = nI (331 + a) := nI_add 331 a
theorem mL331 (a : Nat) : 331 * nI a = nI (331 * a) := nI_mul 331 a
theorem cL331 {β : Type} {n : Nat} {x : Option β} (h : 331 < n) (hn : n < 2 ^ 31) : cki 331 n x = x := cki_nI (k := 331) h hn
theorem kL331 : Int32.toNatClampNeg 331 = 331 := rfl
theorem aL480 (a : Nat) : nI a + 480 = nI (a + 480) := nI_add a 480
theorem La480 (a : Nat) : 480 + nI a = nI (480 + a) := nI_add 480 a
theorem mL480 (a : Nat) : 480 * nI a = nI (480 * a) := nI_mul 480 a
theorem cL480 {β : Type} {n : Nat} {x : Option β} (h : 480 < n) (hn : n < 2 ^ 31) : cki 480 n x = x := cki_nI (k := 480) h hn
theorem kL480 : Int32.toNatClampNeg 480 = 480 := rfl
theorem aL999 (a : Nat) : nI a + 999 = nI (a + 999) := nI_add a 999
theorem La999 (a : Nat) : 999 + nI a = nI (999 + a) := nI_add 999 a
theorem mL999 (a : Nat) : 999 * nI a = nI (999 * a) := nI_mul 999 a
theorem cL999 {β : Type} {n : Nat} {x : Option β} (h : 999 < n) (hn : n < 2 ^ 31) : cki 999 n x = x := cki_nI (k := 999) h hn
theorem kL999 : Int32.toNatClampNeg 999 = 999 := rfl
theorem aL1171 (a : Nat) : nI a + 1171 = nI (a + 1171) := nI_add a 1171
theorem La1171 (a : Nat) : 1171 + nI a = nI (1171 + a) := nI_add 1171 a
theorem mL1171 (a : Nat) : 1171 * nI a = nI (1171 * a) := nI_mul 1171 a
theorem cL1171 {β : Type} {n : Nat} {x : Option β} (h : 1171 < n) (hn : n < 2 ^ 31) : cki 1171 n x = x := cki_nI (k := 1171) h hn
theorem kL1171 : Int32.toNatClampNeg 1171 = 1171 := rfl
theorem aL1200 (a : Nat) : nI a + 1200 = nI (a + 1200) := nI_add a 1200
theorem La1200 (a : Nat) : 1200 + nI a = nI (1200 + a) := nI_add 1200 a
theorem mL1200 (a : Nat) : 1200 * nI a = nI (1200 * a) := nI_mul 1200 a
theorem cL1200 {β : Type} {n : Nat} {x : Option β} (h : 1200 < n) (hn : n < 2 ^ 31) : cki 1200 n x = x := cki_nI (k := 1200) h hn
theorem kL1200 : Int32.toNatClampNeg 1200 = 1200 := rfl
theorem aL2000 (a : Nat) : nI a + 2000 = nI (a + 2000) := nI_add a 2000
theorem La2000 (a : Nat) : 2000 + nI a = nI (2000 + a) := nI_add 2000 a
theorem mL2000 (a : Nat) : 2000 * nI a = nI (2000 * a) := nI_mul 2000 a
theorem cL2000 {β : Type} {n : Nat} {x : Option β} (h : 2000 < n) (hn : n < 2 ^ 31) : cki 2000 n x = x := cki_nI (k := 2000) h hn
theorem kL2000 : Int32.toNatClampNeg 2000 = 2000 := rfl
theorem aL4771 (a : Nat) : nI a + 4771 = nI (a + 4771) := nI_add a 4771
theorem La4771 (a : Nat) : 4771 + nI a = nI (4771 + a) := nI_add 4771 a
theorem mL4771 (a : Nat) : 4771 * nI a = nI (4771 * a) := nI_mul 4771 a
theorem cL4771 {β : Type} {n : Nat} {x : Option β} (h : 4771 < n) (hn : n < 2 ^ 31) : cki 4771 n x = x := cki_nI (k := 4771) h hn
theorem kL4771 : Int32.toNatClampNeg 4771 = 4771 := rfl
theorem aL6211 (a : Nat) : nI a + 6211 = nI (a + 6211) := nI_add a 6211
theorem La6211 (a : Nat) : 6211 + nI a = nI (6211 + a) := nI_add 6211 a
theorem mL6211 (a : Nat) : 6211 * nI a = nI (6211 * a) := nI_mul 6211 a
theorem cL6211 {β : Type} {n : Nat} {x : Option β} (h : 6211 < n) (hn : n < 2 ^ 31) : cki 6211 n x = x := cki_nI (k := 6211) h hn
theorem kL6211 : Int32.toNatClampNeg 6211 = 6211 := rfl
theorem aL6214 (a : Nat) : nI a + 6214 = nI (a + 6214) := nI_add a 6214
theorem La6214 (a : Nat) : 6214 + nI a = nI (6214 + a) := nI_add 6214 a
theorem mL6214 (a : Nat) : 6214 * nI a = nI (6214 * a) := nI_mul 6214 a
theorem cL6214 {β : Type} {n : Nat} {x : Option β} (h : 6214 < n) (hn : n < 2 ^ 31) : cki 6214 n x = x := cki_nI (k := 6214) h hn
theorem kL6214 : Int32.toNatClampNeg 6214 = 6214 := rfl
theorem aL6391 (a : Nat) : nI a + 6391 = nI (a + 6391) := nI_add a 6391
theorem La6391 (a : Nat) : 6391 + nI a = nI (6391 + a) := nI_add 6391 a
theorem mL6391 (a : Nat) : 6391 * nI a = nI (6391 * a) := nI_mul 6391 a
theorem cL6391 {β : Type} {n : Nat} {x : Option β} (h : 6391 < n) (hn : n < 2 ^ 31) : cki 6391 n x = x := cki_nI (k := 6391) h hn
theorem kL6391 : Int32.toNatClampNeg 6391 = 6391 := rfl
theorem aL8000 (a : Nat) : nI a + 8000 = nI (a + 8000) := nI_add a 8000
theorem La8000 (a : Nat) : 8000 + nI a = nI (8000 + a) := nI_add 8000 a
theorem mL8000 (a : Nat) : 8000 * nI a = nI (8000 * a) := nI_mul 8000 a
theorem cL8000 {β : Type} {n : Nat} {x : Option β} (h : 8000 < n) (hn : n < 2 ^ 31) : cki 8000 n x = x := cki_nI (k := 8000) h hn
theorem kL8000 : Int32.toNatClampNeg 8000 = 8000 := rfl
theorem aL9999 (a : Nat) : nI a + 9999 = nI (a + 9999) := nI_add a 9999
theorem La9999 (a : Nat) : 9999 + nI a = nI (9999 + a) := nI_add 9999 a
theorem mL9999 (a : Nat) : 9999 * nI a = nI (9999 * a) := nI_mul 9999 a
theorem cL9999 {β : Type} {n : Nat} {x : Option β} (h : 9999 < n) (hn : n < 2 ^ 31) : cki 9999 n x = x := cki_nI (k := 9999) h hn
theorem kL9999 : Int32.toNatClampNeg 9999 = 9999 := rfl
theorem aL20000 (a : Nat) : nI a + 20000 = nI (a + 20000) := nI_add a 20000
theorem La20000 (a : Nat) : 20000 + nI a = nI (20000 + a) := nI_add 20000 a
theorem mL20000 (a : Nat) : 20000 * nI a = nI (20000 * a) := nI_mul 20000 a
theorem cL20000 {β : Type} {n : Nat} {x : Option β} (h : 20000 < n) (hn : n < 2 ^ 31) : cki 20000 n x = x := cki_nI (k := 20000) h hn
theorem kL20000 : Int32.toNatClampNeg 20000 = 20000 := rfl
theorem aL96000 (a : Nat) : nI a + 96000 = nI (a + 96000) := nI_add a 96000
theorem La96000 (a : Nat) : 96000 + nI a = nI (96000 + a) := nI_add 96000 a
theorem mL96000 (a : Nat) : 96000 * nI a = nI (96000 * a) := nI_mul 96000 a
theorem cL96000 {β : Type} {n : Nat} {x : Option β} (h : 96000 < n) (hn : n < 2 ^ 31) : cki 96000 n x = x := cki_nI (k := 96000) h hn
theorem kL96000 : Int32.toNatClampNeg 96000 = 96000 := rfl
theorem nI_a0 (a : Nat) : nI a + 0 = nI a := nI_add a 0
theorem nI_0a (a : Nat) : 0 + nI a = nI a := by rw [show (0 : Int32) = nI 0 from rfl, nI_add, Nat.zero_add]
theorem nI_1a (a : Nat) : 1 + nI a = nI (1 + a) := nI_add 1 a
theorem nI_1m (a : Nat) : nI a * 10 = nI (a * 10) := nI_mul a 10
theorem cl0 : Int32.toNatClampNeg 0 = 0 := rfl
theorem cl1 : Int32.toNatClampNeg 1 = 1 := rfl
theorem cki_0 {β : Type} {n : Nat} {x : Option β} (h : 0 < n) (hn : n < 2 ^ 31) : cki 0 n x = x := cki_nI (k := 0) h hn
theorem cki_1 {β : Type} {n : Nat} {x : Option β} (h : 1 < n) (hn : n < 2 ^ 31) : cki 1 n x = x := cki_nI (k := 1) h hn
theorem ck_bI {β : Type} (c : Prop) [Decidable c] (k : Option β) : ck (bI c = 0 ∨ bI c = 1) k = k := ck_t (bI01 c)
/-- a counted loop that nothing leaves -/
theorem loopR {α β : Type} (L : Nat → Nat → α → Option β) (n : Nat) (step : Nat → α → α) (fin : α → β) {F k0 : Nat} (a : α) (hF : n < F) (hk : k0 ≤ n)
    (hstop : ∀ fu a, L (fu + 1) n a = some (fin a)) (hstep : ∀ fu k a, k0 ≤ k → k < n → L (fu + 1) k a = L fu (k + 1) (step k a)) : L F k0 a = some (fin (runN step (n - k0) k0 a)) :=
  (loopN L n step fin (fun k _ => k0 ≤ k) (fun fu a _ => hstop fu a) (fun fu k a h hI => ⟨Nat.le_succ_of_le hI, hstep fu k a hI h⟩) F k0 a hk (by omega) (Nat.le_refl _)).1
theorem loopR0 {α β : Type} (L : Nat → Nat → α → Option β) (n : Nat) (step : Nat → α → α) (fin : α → β) {F : Nat} (a : α) (hF : n < F)
    (hstop : ∀ fu a, L (fu + 1) n a = some (fin a)) (hstep : ∀ fu k a, k < n → L (fu + 1) k a = L fu (k + 1) (step k a)) : L F 0 a = some (fin (runN step n 0 a)) :=
  loopR L n step fin a hF (Nat.zero_le _) hstop (fun fu k a _ h => hstep fu k a h)
/-- .. that may be left -/
theorem loopX0 {α β : Type} (L : Nat → Nat → α → Option β) (n : Nat) (step : Nat → α → β ⊕ α) (fin : α → β) {F : Nat} (a : α) (hF : n < F)
    (hstop : ∀ fu a, L (fu + 1) n a = some (fin a)) (hstep : ∀ fu k a, k < n → L (fu + 1) k a = match step k a with
      | .inl b => some b
      | .inr a' => L fu (k + 1) a') : L F 0 a = some (runL step fin n 0 a) := by
  refine loopI L n step fin (fun _ _ => True) (fun fu a _ => hstop fu a) (fun fu k a h _ => ?_) F 0 a (Nat.zero_le _) (by omega) trivial
  have e := hstep fu k a h
  cases hs : step k a with
  | inl b => rw [hs] at e; exact Or.inl ⟨b, rfl, e⟩
  | inr a' => rw [hs] at e; exact Or.inr ⟨a', rfl, trivial, e⟩
theorem runL_eq {α β : Type} {s t : Nat → α → β ⊕ α} {fin : α → β} {n : Nat} : ∀ (c k : Nat) (a : α), k + c ≤ n → (∀ j b, j < n → s j b = t j b) → runL s fin c k a = runL t fin c k a := by
  intro c
  induction c with
  | zero => intro k a _ _; rfl
  | succ c ih =>
    intro k a h e
    show (match s k a with | .inl b => b | .inr a' => runL s fin c (k + 1) a') = (match t k a with | .inl b => b | .inr a' => runL t fin c (k + 1) a')
    rw [e k a (by omega)]
    cases t k a with
    | inl b => rfl
    | inr a' => exact ih (k + 1) a' (by omega) e
theorem runN_e {α : Type} {s t : Nat → α → α} {n : Nat} {a : α} (e : ∀ j b, j < n → s j b = t j b) : runN s n 0 a = runN t n 0 a := runN_eq n 0 a (by omega) e
theorem runL_e {α β : Type} {s t : Nat → α → β ⊕ α} {fin : α → β} {n : Nat} {a : α} (e : ∀ j b, j < n → s j b = t j b) : runL s fin n 0 a = runL t fin n 0 a := runL_eq n 0 a (by omega) e
theorem runN_s {α : Type} {s : Nat → α → α} : ∀ (c k : Nat) (a : α), runN s (c + 1) k a = s (k + c) (runN s c k a) := by
  intro c
  induction c with
  | zero => intro k a; rfl
  | succ c ih =>
    intro k a
    show runN s (c + 1) (k + 1) (s k a) = s (k + (c + 1)) (runN s c (k + 1) (s k a))
    rw [ih (k + 1) (s k a), show k + 1 + c = k + (c + 1) by omega]
/-- an invariant of a loop -/
theorem runN_i {α : Type} {s : Nat → α → α} {n : Nat} {a : α} (I : Nat → α → Prop) (h0 : I 0 a) (hs : ∀ k b, k < n → I k b → I (k + 1) (s k b)) : I n (runN s n 0 a) := by
  have : ∀ c, c ≤ n → I c (runN s c 0 a) := by
    intro c
    induction c with
    | zero => intro _; exact h0
    | succ c ih =>
      intro h
      rw [runN_s, Nat.zero_add]
      exact hs c _ (by omega) (ih (by omega))
  exact this n (Nat.le_refl _)
/-- a choice by a proposition -/
noncomputable def pif {β : Type} (P : Prop) (a b : β) : β := @ite β P (Classical.propDecidable P) a b
theorem pif_t {β : Type} {P : Prop} {a b : β} (h : P) : pif P a b = a := @if_pos P (Classical.propDecidable P) h β a b
theorem pif_f {β : Type} {P : Prop} {a b : β} (h : ¬ P) : pif P a b = b := @if_neg P (Classical.propDecidable P) h β a b
theorem pif_e {β : Type} {P : Prop} [Decidable P] {a b : β} : pif P a b = if P then a else b := by
  by_cases h : P
  · rw [pif_t h, if_pos h]
  · rw [pif_f h, if_neg h]
theorem pif_c {β : Type} {P Q : Prop} {a b : β} (h : P ↔ Q) : pif P a b = pif Q a b := by
  by_cases hp : P
  · rw [pif_t hp, pif_t (h.mp hp)]
  · rw [pif_f hp, pif_f (fun z => hp (h.mpr z))]
noncomputable def pI (P : Prop) : Int32 := pif P 1 0
theorem pI_t {P : Prop} (h : P) : pI P = 1 := pif_t h
theorem pI_f {P : Prop} (h : ¬ P) : pI P = 0 := pif_f h
theorem pI_0 {P : Prop} : pI P = 0 ↔ ¬ P := by
  by_cases h : P
  · rw [pI_t h]; exact ⟨fun e => absurd e (by decide), fun e => absurd h e⟩
  · rw [pI_f h]; exact ⟨fun _ => h, fun _ => rfl⟩
theorem pI_1 {P : Prop} : pI P = 1 ↔ P := by
  by_cases h : P
  · rw [pI_t h]; exact ⟨fun _ => h, fun _ => rfl⟩
  · rw [pI_f h]; exact ⟨fun e => absurd e (by decide), fun e => absurd e h⟩
theorem pI01 (P : Prop) : pI P = 0 ∨ pI P = 1 := by
  by_cases h : P
  · exact Or.inr (pI_t h)
  · exact Or.inl (pI_f h)
theorem pI_c {P Q : Prop} (h : P ↔ Q) : pI P = pI Q := pif_c h
theorem pI_b {P : Prop} [Decidable P] : pI P = bI P := pif_e
theorem pI_e0 {β : Type} {P : Prop} {a b : β} : (if pI P = 0 then a else b) = pif P b a := by
  by_cases h : P
  · rw [pI_t h, pif_t h]; rfl
  · rw [pI_f h, pif_f h]; rfl
theorem pI_n0 {β : Type} {P : Prop} {a b : β} : (if ¬ pI P = 0 then a else b) = pif P a b := by
  by_cases h : P
  · rw [pI_t h, pif_t h]; rfl
  · rw [pI_f h, pif_f h]; rfl
/-- counting -/
theorem cntP_0 (P : Nat → Prop) : cntP P 0 = 0 := rfl
theorem cntP_s (P : Nat → Prop) (b : Nat) : cntP P (b + 1) = cntP P b + pif (P b) 1 0 := by
  unfold cntP pif
  rw [runN_s, Nat.zero_add]
theorem cntP_c {P Q : Nat → Prop} : ∀ {b : Nat}, (∀ k, k < b → (P k ↔ Q k)) → cntP P b = cntP Q b := by
  intro b
  induction b with
  | zero => intro _; rfl
  | succ b ih =>
    intro h
    rw [cntP_s, cntP_s, ih (fun k hk => h k (by omega)), pif_c (h b (by omega))]
theorem cntP_le (P : Nat → Prop) : ∀ b, cntP P b ≤ b := by
  intro b
  induction b with
  | zero => exact Nat.le_refl _
  | succ b ih =>
    rw [cntP_s]
    by_cases h : P b
    · rw [pif_t h]; omega
    · rw [pif_f h]; omega
theorem cntP_z {P : Nat → Prop} : ∀ {b : Nat}, cntP P b = 0 ↔ ∀ k, k < b → ¬ P k := by
  intro b
  induction b with
  | zero => exact ⟨fun _ k h => absurd h (Nat.not_lt_zero _), fun _ => rfl⟩
  | succ b ih =>
    rw [cntP_s]
    by_cases h : P b
    · rw [pif_t h]
      exact ⟨fun e => by omega, fun e => absurd h (e b (by omega))⟩
    · rw [pif_f h]
      refine ⟨fun e k hk => ?_, fun e => ?_⟩
      · rcases Nat.lt_or_ge k b with q | q
        · exact (ih.mp (by omega)) k q
        · rw [show k = b by omega]; exact h
      · have := ih.mpr (fun k hk => e k (by omega))
        omega
/-- one that is not counted any more, one that is counted now -/
theorem cntP_del {P Q : Nat → Prop} {q : Nat} : ∀ {b : Nat}, q < b → P q → ¬ Q q → (∀ k, k < b → k ≠ q → (P k ↔ Q k)) → cntP P b = cntP Q b + 1 := by
  intro b
  induction b with
  | zero => intro h; omega
  | succ b ih =>
    intro hb hp hq h
    rw [cntP_s, cntP_s]
    by_cases e : q = b
    · subst e
      rw [cntP_c (Q := Q) (fun k hk => h k (by omega) (by omega)), pif_t hp, pif_f hq]
    · rw [ih (by omega) hp hq (fun k hk => h k (by omega)), pif_c (h b (by omega) (fun z => e z.symm))]
      omega
/-- a loop that counts -/
theorem cnt_run {P : Nat → Prop} (s : Nat → Int32 → Int32) : ∀ {n : Nat}, (∀ k a, k < n → s k a = pif (P k) (a + 1) a) → runN s n 0 0 = nI (cntP P n) := by
  intro n
  induction n with
  | zero => intro _; rfl
  | succ n ih =>
    intro h
    rw [runN_s, Nat.zero_add, h n _ (by omega), ih (fun k a hk => h k a (by omega)), cntP_s]
    by_cases hp : P n
    · rw [pif_t hp, pif_t hp, nI_1]
    · rw [pif_f hp, pif_f hp, Nat.add_zero]

